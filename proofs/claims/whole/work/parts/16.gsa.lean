theorem ml_RX11_113 : Cond.methodLink RX11 113 yX8_signsIn ∈ gs_tbl := gs_t 365 (by decide +kernel) (by decide +kernel)
theorem ss_X8_signsIn : Cond.static yX8_signsIn ∈ gs_tbl := gs_t 366 (by decide +kernel) (by decide +kernel)
theorem fl_RX11_10_10 : gs_FL RX11 10 "GrainShift" 10 0 (RX11, TX11, 20) := ⟨rfl, by decide, gs_t 300 (by decide +kernel) (by decide +kernel), Or.inl rfl⟩
theorem fl_RX11_117_7 : gs_FL RX11 117 "GrainShift$Tape" 7 1 (RX8, TX8, 2) := ⟨rfl, by decide, gs_t 38 (by decide +kernel) (by decide +kernel), Or.inl rfl⟩
theorem se_7_RX8_X8_putWord : Cond.selects RX8 yX8_putWord yX8_putWord ∈ gs_tbl := gs_t 370 (by decide +kernel) (by decide +kernel)
theorem ml_RX11_120 : Cond.methodLink RX11 120 yX8_putWord ∈ gs_tbl := gs_t 368 (by decide +kernel) (by decide +kernel)
theorem im_X8_putWord : Cond.instanceMethod yX8_putWord ∈ gs_tbl := gs_t 369 (by decide +kernel) (by decide +kernel)
theorem mf_X11_feed : gs_MF yX11_feed cX11_feed 7 (some .int) 5 := ⟨gs_t 364 (by decide +kernel) (by decide +kernel), gs_t 1 (by decide +kernel) (by decide +kernel), by decide, by decide, by decide +kernel, by decide, by decide⟩
theorem ml_RX11_123 : Cond.methodLink RX11 123 yX11_within ∈ gs_tbl := gs_t 376 (by decide +kernel) (by decide +kernel)
theorem mf_X11_end : gs_MF yX11_end cX11_end 2 (some .boolean) 1 := ⟨gs_t 375 (by decide +kernel) (by decide +kernel), gs_t 1 (by decide +kernel) (by decide +kernel), by decide, by decide, by decide +kernel, by decide, by decide⟩
theorem fl_RX11_21_10 : gs_FL RX11 21 "GrainShift" 10 1 (RX11, TX11, 20) := ⟨rfl, by decide, gs_t 301 (by decide +kernel) (by decide +kernel), Or.inl rfl⟩
theorem se_2_RX2_X2_readAll : Cond.selects RX2 yX2_readAll yX2_readAll ∈ gs_tbl := gs_t 501 (by decide +kernel) (by decide +kernel)
theorem ml_RX11_131 : Cond.methodLink RX11 131 yX2_readAll ∈ gs_tbl := gs_t 499 (by decide +kernel) (by decide +kernel)
theorem im_X2_readAll : Cond.instanceMethod yX2_readAll ∈ gs_tbl := gs_t 500 (by decide +kernel) (by decide +kernel)
theorem fl_RX11_28_10 : gs_FL RX11 28 "GrainShift" 10 2 (RX11, TX11, 20) := ⟨rfl, by decide, gs_t 302 (by decide +kernel) (by decide +kernel), Or.inl rfl⟩
theorem se_4_RX5_X5_readAll : Cond.selects RX5 yX5_readAll yX5_readAll ∈ gs_tbl := gs_t 385 (by decide +kernel) (by decide +kernel)
theorem ml_RX11_127 : Cond.methodLink RX11 127 yX5_readAll ∈ gs_tbl := gs_t 383 (by decide +kernel) (by decide +kernel)
theorem im_X5_readAll : Cond.instanceMethod yX5_readAll ∈ gs_tbl := gs_t 384 (by decide +kernel) (by decide +kernel)
theorem mf_X11_fault : gs_MF yX11_fault cX11_fault 2 (some .int) 1 := ⟨gs_t 382 (by decide +kernel) (by decide +kernel), gs_t 1 (by decide +kernel) (by decide +kernel), by decide, by decide, by decide +kernel, by decide, by decide⟩
theorem fl_RX11_37_10 : gs_FL RX11 37 "GrainShift" 10 3 (RX11, TX11, 20) := ⟨rfl, by decide, gs_t 303 (by decide +kernel) (by decide +kernel), Or.inl rfl⟩
theorem se_8_RX9_X9_keep : Cond.selects RX9 yX9_keep yX9_keep ∈ gs_tbl := gs_t 555 (by decide +kernel) (by decide +kernel)
theorem ml_RX11_136 : Cond.methodLink RX11 136 yX9_keep ∈ gs_tbl := gs_t 553 (by decide +kernel) (by decide +kernel)
theorem im_X9_keep : Cond.instanceMethod yX9_keep ∈ gs_tbl := gs_t 554 (by decide +kernel) (by decide +kernel)
theorem fl_RX11_41_10 : gs_FL RX11 41 "GrainShift" 10 4 (RX11, TX11, 20) := ⟨rfl, by decide, gs_t 304 (by decide +kernel) (by decide +kernel), Or.inl rfl⟩
theorem fl_RX11_44_10 : gs_FL RX11 44 "GrainShift" 10 5 (RX11, TX11, 20) := ⟨rfl, by decide, gs_t 305 (by decide +kernel) (by decide +kernel), Or.inl rfl⟩
theorem fl_RX11_50_10 : gs_FL RX11 50 "GrainShift" 10 6 (RX11, TX11, 20) := ⟨rfl, by decide, gs_t 306 (by decide +kernel) (by decide +kernel), Or.inl rfl⟩
theorem se_5_RX6_X6_keep : Cond.selects RX6 yX6_keep yX6_keep ∈ gs_tbl := gs_t 559 (by decide +kernel) (by decide +kernel)
theorem ml_RX11_140 : Cond.methodLink RX11 140 yX6_keep ∈ gs_tbl := gs_t 557 (by decide +kernel) (by decide +kernel)
theorem im_X6_keep : Cond.instanceMethod yX6_keep ∈ gs_tbl := gs_t 558 (by decide +kernel) (by decide +kernel)
theorem mf_X11_keepWhatWasRead : gs_MF yX11_keepWhatWasRead cX11_keepWhatWasRead 2 (some .int) 1 := ⟨gs_t 552 (by decide +kernel) (by decide +kernel), gs_t 1 (by decide +kernel) (by decide +kernel), by decide, by decide, by decide +kernel, by decide, by decide⟩
theorem se_10_RX11_X11_keepWhatWasRead : Cond.selects RX11 yX11_keepWhatWasRead yX11_keepWhatWasRead ∈ gs_tbl := gs_s 13 (by decide +kernel) (by decide +kernel)
theorem ml_RX11_133 : Cond.methodLink RX11 133 yX11_keepWhatWasRead ∈ gs_tbl := gs_t 549 (by decide +kernel) (by decide +kernel)
theorem im_X11_keepWhatWasRead : Cond.instanceMethod yX11_keepWhatWasRead ∈ gs_tbl := gs_t 551 (by decide +kernel) (by decide +kernel)
theorem mf_X11_text : gs_MF yX11_text cX11_text 4 (some .int) 1 := ⟨gs_t 548 (by decide +kernel) (by decide +kernel), gs_t 1 (by decide +kernel) (by decide +kernel), by decide, by decide, by decide +kernel, by decide, by decide⟩
theorem ml_RX11_143 : Cond.methodLink RX11 143 yX9_has ∈ gs_tbl := gs_t 565 (by decide +kernel) (by decide +kernel)
theorem ml_RX11_150 : Cond.methodLink RX11 150 yX9_number ∈ gs_tbl := gs_t 574 (by decide +kernel) (by decide +kernel)
theorem se_8_RX9_X9_rowsOf : Cond.selects RX9 yX9_rowsOf yX9_rowsOf ∈ gs_tbl := gs_t 571 (by decide +kernel) (by decide +kernel)
theorem ml_RX11_154 : Cond.methodLink RX11 154 yX9_rowsOf ∈ gs_tbl := gs_t 569 (by decide +kernel) (by decide +kernel)
theorem im_X9_rowsOf : Cond.instanceMethod yX9_rowsOf ∈ gs_tbl := gs_t 570 (by decide +kernel) (by decide +kernel)
theorem mf_X11_ship : gs_MF yX11_ship cX11_ship 4 (some .int) 3 := ⟨gs_t 564 (by decide +kernel) (by decide +kernel), gs_t 1 (by decide +kernel) (by decide +kernel), by decide, by decide, by decide +kernel, by decide, by decide⟩
theorem mf_X11_plan : gs_MF yX11_plan cX11_plan 4 (some .int) 3 := ⟨gs_t 582 (by decide +kernel) (by decide +kernel), gs_t 1 (by decide +kernel) (by decide +kernel), by decide, by decide, by decide +kernel, by decide, by decide⟩
theorem fl_RX11_57_10 : gs_FL RX11 57 "GrainShift" 10 7 (RX11, TX11, 20) := ⟨rfl, by decide, gs_t 307 (by decide +kernel) (by decide +kernel), Or.inl rfl⟩
theorem fl_RX11_157_6 : gs_FL RX11 157 "GrainShift$Settings" 6 0 (RX7, TX7, 3) := ⟨rfl, by decide, gs_t 157 (by decide +kernel) (by decide +kernel), Or.inl rfl⟩
theorem fl_RX11_160_6 : gs_FL RX11 160 "GrainShift$Settings" 6 1 (RX7, TX7, 3) := ⟨rfl, by decide, gs_t 160 (by decide +kernel) (by decide +kernel), Or.inl rfl⟩
theorem fl_RX11_163_6 : gs_FL RX11 163 "GrainShift$Settings" 6 2 (RX7, TX7, 3) := ⟨rfl, by decide, gs_t 162 (by decide +kernel) (by decide +kernel), Or.inl rfl⟩
theorem mf_X11_set : gs_MF yX11_set cX11_set 3 (some .boolean) 2 := ⟨gs_t 586 (by decide +kernel) (by decide +kernel), gs_t 1 (by decide +kernel) (by decide +kernel), by decide, by decide, by decide +kernel, by decide, by decide⟩
theorem mf_X11_canLoad : gs_MF yX11_canLoad cX11_canLoad 5 (some .boolean) 2 := ⟨gs_t 594 (by decide +kernel) (by decide +kernel), gs_t 1 (by decide +kernel) (by decide +kernel), by decide, by decide, by decide +kernel, by decide, by decide⟩
theorem se_9_RX10_X10_startAnew : Cond.selects RX10 yX10_startAnew yX10_startAnew ∈ gs_tbl := gs_t 601 (by decide +kernel) (by decide +kernel)
theorem ml_RX11_178 : Cond.methodLink RX11 178 yX10_startAnew ∈ gs_tbl := gs_t 599 (by decide +kernel) (by decide +kernel)
theorem im_X10_startAnew : Cond.instanceMethod yX10_startAnew ∈ gs_tbl := gs_t 600 (by decide +kernel) (by decide +kernel)
theorem fl_RX11_181_9 : gs_FL RX11 181 "GrainShift$Vessel" 9 1 (RX10, TX10, 7) := ⟨rfl, by decide, gs_t 242 (by decide +kernel) (by decide +kernel), Or.inl rfl⟩
theorem fl_RX11_182_9 : gs_FL RX11 182 "GrainShift$Vessel" 9 0 (RX10, TX10, 7) := ⟨rfl, by decide, gs_t 240 (by decide +kernel) (by decide +kernel), Or.inl rfl⟩
theorem se_1_RX1_X1_shape : Cond.selects RX1 yX1_shape yX1_shape ∈ gs_tbl := gs_t 605 (by decide +kernel) (by decide +kernel)
theorem ml_RX11_186 : Cond.methodLink RX11 186 yX1_shape ∈ gs_tbl := gs_t 603 (by decide +kernel) (by decide +kernel)
theorem im_X1_shape : Cond.instanceMethod yX1_shape ∈ gs_tbl := gs_t 604 (by decide +kernel) (by decide +kernel)
theorem se_1_RX1_X1_takeStuff : Cond.selects RX1 yX1_takeStuff yX1_takeStuff ∈ gs_tbl := gs_t 609 (by decide +kernel) (by decide +kernel)
theorem ml_RX11_192 : Cond.methodLink RX11 192 yX1_takeStuff ∈ gs_tbl := gs_t 607 (by decide +kernel) (by decide +kernel)
theorem im_X1_takeStuff : Cond.instanceMethod yX1_takeStuff ∈ gs_tbl := gs_t 608 (by decide +kernel) (by decide +kernel)
theorem fl_RX11_196_1 : gs_FL RX11 196 "GrainShift$Hold" 1 2 (RX1, TX1, 14) := ⟨rfl, by decide, gs_t 190 (by decide +kernel) (by decide +kernel), Or.inl rfl⟩
theorem fl_RX11_199_1 : gs_FL RX11 199 "GrainShift$Hold" 1 3 (RX1, TX1, 14) := ⟨rfl, by decide, gs_t 192 (by decide +kernel) (by decide +kernel), Or.inl rfl⟩
theorem se_1_RX1_X1_fill : Cond.selects RX1 yX1_fill yX1_fill ∈ gs_tbl := gs_t 614 (by decide +kernel) (by decide +kernel)
theorem ml_RX11_202 : Cond.methodLink RX11 202 yX1_fill ∈ gs_tbl := gs_t 612 (by decide +kernel) (by decide +kernel)
theorem im_X1_fill : Cond.instanceMethod yX1_fill ∈ gs_tbl := gs_t 613 (by decide +kernel) (by decide +kernel)
theorem mf_X11_lay : gs_MF yX11_lay cX11_lay 6 none 3 := ⟨gs_t 598 (by decide +kernel) (by decide +kernel), gs_t 1 (by decide +kernel) (by decide +kernel), by decide, by decide, by decide +kernel, by decide, by decide⟩
theorem se_10_RX11_X11_canLoad : Cond.selects RX11 yX11_canLoad yX11_canLoad ∈ gs_tbl := gs_s 14 (by decide +kernel) (by decide +kernel)
theorem ml_RX11_166 : Cond.methodLink RX11 166 yX11_canLoad ∈ gs_tbl := gs_t 591 (by decide +kernel) (by decide +kernel)
theorem im_X11_canLoad : Cond.instanceMethod yX11_canLoad ∈ gs_tbl := gs_t 593 (by decide +kernel) (by decide +kernel)
theorem fl_RX11_66_10 : gs_FL RX11 66 "GrainShift" 10 8 (RX11, TX11, 20) := ⟨rfl, by decide, gs_t 308 (by decide +kernel) (by decide +kernel), Or.inl rfl⟩
theorem se_10_RX11_X11_lay : Cond.selects RX11 yX11_lay yX11_lay ∈ gs_tbl := gs_s 15 (by decide +kernel) (by decide +kernel)
theorem ml_RX11_170 : Cond.methodLink RX11 170 yX11_lay ∈ gs_tbl := gs_t 595 (by decide +kernel) (by decide +kernel)
theorem im_X11_lay : Cond.instanceMethod yX11_lay ∈ gs_tbl := gs_t 597 (by decide +kernel) (by decide +kernel)
theorem fl_RX11_174_9 : gs_FL RX11 174 "GrainShift$Vessel" 9 5 (RX10, TX10, 7) := ⟨rfl, by decide, gs_t 250 (by decide +kernel) (by decide +kernel), Or.inl rfl⟩
theorem mf_X11_load : gs_MF yX11_load cX11_load 5 (some .boolean) 3 := ⟨gs_t 590 (by decide +kernel) (by decide +kernel), gs_t 1 (by decide +kernel) (by decide +kernel), by decide, by decide, by decide +kernel, by decide, by decide⟩
theorem se_9_RX10_X10_isLoaded : Cond.selects RX10 yX10_isLoaded yX10_isLoaded ∈ gs_tbl := gs_t 665 (by decide +kernel) (by decide +kernel)
theorem ml_RX11_253 : Cond.methodLink RX11 253 yX10_isLoaded ∈ gs_tbl := gs_t 663 (by decide +kernel) (by decide +kernel)
theorem im_X10_isLoaded : Cond.instanceMethod yX10_isLoaded ∈ gs_tbl := gs_t 664 (by decide +kernel) (by decide +kernel)
theorem fl_RX11_262_9 : gs_FL RX11 262 "GrainShift$Vessel" 9 4 (RX10, TX10, 7) := ⟨rfl, by decide, gs_t 248 (by decide +kernel) (by decide +kernel), Or.inl rfl⟩
theorem mf_X11_isReady : gs_MF yX11_isReady cX11_isReady 1 (some .boolean) 0 := ⟨gs_t 662 (by decide +kernel) (by decide +kernel), gs_t 1 (by decide +kernel) (by decide +kernel), by decide, by decide, by decide +kernel, by decide, by decide⟩
theorem se_10_RX11_X11_isReady : Cond.selects RX11 yX11_isReady yX11_isReady ∈ gs_tbl := gs_s 20 (by decide +kernel) (by decide +kernel)
theorem ml_RX11_206 : Cond.methodLink RX11 206 yX11_isReady ∈ gs_tbl := gs_t 659 (by decide +kernel) (by decide +kernel)
theorem im_X11_isReady : Cond.instanceMethod yX11_isReady ∈ gs_tbl := gs_t 661 (by decide +kernel) (by decide +kernel)
theorem ml_RX11_210 : Cond.methodLink RX11 210 yX10_rollBy ∈ gs_tbl := gs_t 667 (by decide +kernel) (by decide +kernel)
theorem mf_X11_roll : gs_MF yX11_roll cX11_roll 2 (some .int) 1 := ⟨gs_t 658 (by decide +kernel) (by decide +kernel), gs_t 1 (by decide +kernel) (by decide +kernel), by decide, by decide, by decide +kernel, by decide, by decide⟩
theorem se_9_RX10_X10_sail : Cond.selects RX10 yX10_sail yX10_sail ∈ gs_tbl := gs_t 716 (by decide +kernel) (by decide +kernel)
theorem ml_RX11_213 : Cond.methodLink RX11 213 yX10_sail ∈ gs_tbl := gs_t 714 (by decide +kernel) (by decide +kernel)
theorem im_X10_sail : Cond.instanceMethod yX10_sail ∈ gs_tbl := gs_t 715 (by decide +kernel) (by decide +kernel)
theorem fl_RX11_216_9 : gs_FL RX11 216 "GrainShift$Vessel" 9 3 (RX10, TX10, 7) := ⟨rfl, by decide, gs_t 246 (by decide +kernel) (by decide +kernel), Or.inl rfl⟩
theorem mf_X11_day : gs_MF yX11_day cX11_day 2 (some .int) 1 := ⟨gs_t 713 (by decide +kernel) (by decide +kernel), gs_t 1 (by decide +kernel) (by decide +kernel), by decide, by decide, by decide +kernel, by decide, by decide⟩
theorem se_9_RX10_X10_hasColumn : Cond.selects RX10 yX10_hasColumn yX10_hasColumn ∈ gs_tbl := gs_t 736 (by decide +kernel) (by decide +kernel)
theorem ml_RX11_219 : Cond.methodLink RX11 219 yX10_hasColumn ∈ gs_tbl := gs_t 734 (by decide +kernel) (by decide +kernel)
theorem im_X10_hasColumn : Cond.instanceMethod yX10_hasColumn ∈ gs_tbl := gs_t 735 (by decide +kernel) (by decide +kernel)
theorem ml_RX11_225 : Cond.methodLink RX11 225 yX1_tall ∈ gs_tbl := gs_t 742 (by decide +kernel) (by decide +kernel)
theorem fl_RX11_222_1 : gs_FL RX11 222 "GrainShift$Hold" 1 0 (RX1, TX1, 14) := ⟨rfl, by decide, gs_t 185 (by decide +kernel) (by decide +kernel), Or.inl rfl⟩
theorem mf_X11_column : gs_MF yX11_column cX11_column 5 (some .int) 3 := ⟨gs_t 733 (by decide +kernel) (by decide +kernel), gs_t 1 (by decide +kernel) (by decide +kernel), by decide, by decide, by decide +kernel, by decide, by decide⟩
theorem ml_RX11_228 : Cond.methodLink RX11 228 yX10_hasHold ∈ gs_tbl := gs_t 751 (by decide +kernel) (by decide +kernel)
theorem se_1_RX1_X1_allUnits : Cond.selects RX1 yX1_allUnits yX1_allUnits ∈ gs_tbl := gs_t 755 (by decide +kernel) (by decide +kernel)
theorem ml_RX11_232 : Cond.methodLink RX11 232 yX1_allUnits ∈ gs_tbl := gs_t 753 (by decide +kernel) (by decide +kernel)
theorem im_X1_allUnits : Cond.instanceMethod yX1_allUnits ∈ gs_tbl := gs_t 754 (by decide +kernel) (by decide +kernel)
theorem ml_RX11_235 : Cond.methodLink RX11 235 yX1_moment ∈ gs_tbl := gs_t 757 (by decide +kernel) (by decide +kernel)
theorem fl_RX11_238_1 : gs_FL RX11 238 "GrainShift$Hold" 1 4 (RX1, TX1, 14) := ⟨rfl, by decide, gs_t 194 (by decide +kernel) (by decide +kernel), Or.inl rfl⟩
theorem fl_RX11_241_1 : gs_FL RX11 241 "GrainShift$Hold" 1 5 (RX1, TX1, 14) := ⟨rfl, by decide, gs_t 197 (by decide +kernel) (by decide +kernel), Or.inl rfl⟩
theorem ml_RX11_244 : Cond.methodLink RX11 244 yX1_isSoup ∈ gs_tbl := gs_t 758 (by decide +kernel) (by decide +kernel)
theorem ml_RX11_247 : Cond.methodLink RX11 247 yX1_holdsFast ∈ gs_tbl := gs_t 759 (by decide +kernel) (by decide +kernel)
theorem se_1_RX1_X1_gap : Cond.selects RX1 yX1_gap yX1_gap ∈ gs_tbl := gs_t 762 (by decide +kernel) (by decide +kernel)
theorem ml_RX11_250 : Cond.methodLink RX11 250 yX1_gap ∈ gs_tbl := gs_t 760 (by decide +kernel) (by decide +kernel)
theorem im_X1_gap : Cond.instanceMethod yX1_gap ∈ gs_tbl := gs_t 761 (by decide +kernel) (by decide +kernel)
theorem kc_RX11_231 : Cond.constant RX11 231 (-1000000) ∈ gs_tbl := gs_t 752 (by decide +kernel) (by decide +kernel)
theorem mf_X11_hold : gs_MF yX11_hold cX11_hold 4 (some .int) 2 := ⟨gs_t 750 (by decide +kernel) (by decide +kernel), gs_t 1 (by decide +kernel) (by decide +kernel), by decide, by decide, by decide +kernel, by decide, by decide⟩
theorem ml_RX11_256 : Cond.methodLink RX11 256 yX10_lean ∈ gs_tbl := gs_t 772 (by decide +kernel) (by decide +kernel)
theorem fl_RX11_259_9 : gs_FL RX11 259 "GrainShift$Vessel" 9 2 (RX10, TX10, 7) := ⟨rfl, by decide, gs_t 244 (by decide +kernel) (by decide +kernel), Or.inl rfl⟩
theorem ml_RX11_266 : Cond.methodLink RX11 266 yX10_moments ∈ gs_tbl := gs_t 773 (by decide +kernel) (by decide +kernel)
theorem mf_X11_about : gs_MF yX11_about cX11_about 2 (some .int) 1 := ⟨gs_t 771 (by decide +kernel) (by decide +kernel), gs_t 1 (by decide +kernel) (by decide +kernel), by decide, by decide, by decide +kernel, by decide, by decide⟩
theorem fl_RX11_76_10 : gs_FL RX11 76 "GrainShift" 10 11 (RX11, TX11, 20) := ⟨rfl, by decide, gs_t 311 (by decide +kernel) (by decide +kernel), Or.inl rfl⟩
theorem se_9_RX10_X10_become : Cond.selects RX10 yX10_become yX10_become ∈ gs_tbl := gs_t 784 (by decide +kernel) (by decide +kernel)
theorem ml_RX11_278 : Cond.methodLink RX11 278 yX10_become ∈ gs_tbl := gs_t 782 (by decide +kernel) (by decide +kernel)
theorem im_X10_become : Cond.instanceMethod yX10_become ∈ gs_tbl := gs_t 783 (by decide +kernel) (by decide +kernel)
theorem mf_X11_tryRoll : gs_MF yX11_tryRoll cX11_tryRoll 2 (some .int) 1 := ⟨gs_t 781 (by decide +kernel) (by decide +kernel), gs_t 1 (by decide +kernel) (by decide +kernel), by decide, by decide, by decide +kernel, by decide, by decide⟩
theorem se_10_RX11_X11_tryRoll : Cond.selects RX11 yX11_tryRoll yX11_tryRoll ∈ gs_tbl := gs_s 24 (by decide +kernel) (by decide +kernel)
theorem ml_RX11_269 : Cond.methodLink RX11 269 yX11_tryRoll ∈ gs_tbl := gs_t 778 (by decide +kernel) (by decide +kernel)
theorem im_X11_tryRoll : Cond.instanceMethod yX11_tryRoll ∈ gs_tbl := gs_t 780 (by decide +kernel) (by decide +kernel)
theorem ml_RX11_275 : Cond.methodLink RX11 275 yX10_wentLeft ∈ gs_tbl := gs_t 791 (by decide +kernel) (by decide +kernel)
theorem ml_RX11_272 : Cond.methodLink RX11 272 yX10_wentRight ∈ gs_tbl := gs_t 790 (by decide +kernel) (by decide +kernel)
theorem mf_X11_goes : gs_MF yX11_goes cX11_goes 3 (some .int) 2 := ⟨gs_t 777 (by decide +kernel) (by decide +kernel), gs_t 1 (by decide +kernel) (by decide +kernel), by decide, by decide, by decide +kernel, by decide, by decide⟩
theorem mf_X11_least : gs_MF yX11_least cX11_least 2 (some .int) 0 := ⟨gs_t 795 (by decide +kernel) (by decide +kernel), gs_t 1 (by decide +kernel) (by decide +kernel), by decide, by decide, by decide +kernel, by decide, by decide⟩
theorem mf_X11_runs : gs_MF yX11_runs cX11_runs 5 (some .int) 2 := ⟨gs_t 799 (by decide +kernel) (by decide +kernel), gs_t 1 (by decide +kernel) (by decide +kernel), by decide, by decide, by decide +kernel, by decide, by decide⟩
theorem mm_RX11_286 : Cond.methodLink RX11 286 Lib.Math.abs.name ∈ gs_tbl := gs_t 808 (by decide +kernel) (by decide +kernel)
theorem mf_X11_leanWithBallast : gs_MF yX11_leanWithBallast cX11_leanWithBallast 4 (some .int) 2 := ⟨gs_t 807 (by decide +kernel) (by decide +kernel), gs_t 1 (by decide +kernel) (by decide +kernel), by decide, by decide, by decide +kernel, by decide, by decide⟩
theorem se_10_RX11_X11_leanWithBallast : Cond.selects RX11 yX11_leanWithBallast yX11_leanWithBallast ∈ gs_tbl := gs_s 25 (by decide +kernel) (by decide +kernel)
theorem ml_RX11_282 : Cond.methodLink RX11 282 yX11_leanWithBallast ∈ gs_tbl := gs_t 804 (by decide +kernel) (by decide +kernel)
theorem im_X11_leanWithBallast : Cond.instanceMethod yX11_leanWithBallast ∈ gs_tbl := gs_t 806 (by decide +kernel) (by decide +kernel)
theorem mf_X11_ballast : gs_MF yX11_ballast cX11_ballast 7 (some .int) 1 := ⟨gs_t 803 (by decide +kernel) (by decide +kernel), gs_t 1 (by decide +kernel) (by decide +kernel), by decide, by decide, by decide +kernel, by decide, by decide⟩
theorem fl_RX11_82_10 : gs_FL RX11 82 "GrainShift" 10 12 (RX11, TX11, 20) := ⟨rfl, by decide, gs_t 312 (by decide +kernel) (by decide +kernel), Or.inl rfl⟩
theorem se_3_RX3_X3_keep : Cond.selects RX3 yX3_keep yX3_keep ∈ gs_tbl := gs_t 815 (by decide +kernel) (by decide +kernel)
theorem ml_RX11_291 : Cond.methodLink RX11 291 yX3_keep ∈ gs_tbl := gs_t 813 (by decide +kernel) (by decide +kernel)
theorem im_X3_keep : Cond.instanceMethod yX3_keep ∈ gs_tbl := gs_t 814 (by decide +kernel) (by decide +kernel)
theorem mf_X11_course : gs_MF yX11_course cX11_course 3 (some .int) 2 := ⟨gs_t 812 (by decide +kernel) (by decide +kernel), gs_t 1 (by decide +kernel) (by decide +kernel), by decide, by decide, by decide +kernel, by decide, by decide⟩
theorem fl_RX11_293_3 : gs_FL RX11 293 "GrainShift$Pairs" 3 2 (RX3, TX3, 3) := ⟨rfl, by decide, gs_t 278 (by decide +kernel) (by decide +kernel), Or.inl rfl⟩
theorem fl_RX11_294_3 : gs_FL RX11 294 "GrainShift$Pairs" 3 0 (RX3, TX3, 3) := ⟨rfl, by decide, gs_t 274 (by decide +kernel) (by decide +kernel), Or.inl rfl⟩
theorem fl_RX11_297_3 : gs_FL RX11 297 "GrainShift$Pairs" 3 1 (RX3, TX3, 3) := ⟨rfl, by decide, gs_t 276 (by decide +kernel) (by decide +kernel), Or.inl rfl⟩
theorem mf_X11_best : gs_MF yX11_best cX11_best 6 (some .int) 1 := ⟨gs_t 820 (by decide +kernel) (by decide +kernel), gs_t 1 (by decide +kernel) (by decide +kernel), by decide, by decide, by decide +kernel, by decide, by decide⟩
theorem mf_X11_fittingCost : gs_MF yX11_fittingCost cX11_fittingCost 5 (some .int) 4 := ⟨gs_t 828 (by decide +kernel) (by decide +kernel), gs_t 1 (by decide +kernel) (by decide +kernel), by decide, by decide, by decide +kernel, by decide, by decide⟩
theorem se_10_RX11_X11_fittingCost : Cond.selects RX11 yX11_fittingCost yX11_fittingCost ∈ gs_tbl := gs_s 26 (by decide +kernel) (by decide +kernel)
theorem ml_RX11_300 : Cond.methodLink RX11 300 yX11_fittingCost ∈ gs_tbl := gs_t 825 (by decide +kernel) (by decide +kernel)
theorem im_X11_fittingCost : Cond.instanceMethod yX11_fittingCost ∈ gs_tbl := gs_t 827 (by decide +kernel) (by decide +kernel)
theorem mf_X11_cost : gs_MF yX11_cost cX11_cost 5 (some .int) 2 := ⟨gs_t 824 (by decide +kernel) (by decide +kernel), gs_t 1 (by decide +kernel) (by decide +kernel), by decide, by decide, by decide +kernel, by decide, by decide⟩
theorem mf_X11_isVoyage : gs_MF yX11_isVoyage cX11_isVoyage 3 (some .boolean) 3 := ⟨gs_t 835 (by decide +kernel) (by decide +kernel), gs_t 1 (by decide +kernel) (by decide +kernel), by decide, by decide, by decide +kernel, by decide, by decide⟩
theorem fl_RX11_73_10 : gs_FL RX11 73 "GrainShift" 10 10 (RX11, TX11, 20) := ⟨rfl, by decide, gs_t 310 (by decide +kernel) (by decide +kernel), Or.inl rfl⟩
theorem mf_X11_lostOf : gs_MF yX11_lostOf cX11_lostOf 7 (some .int) 4 := ⟨gs_t 839 (by decide +kernel) (by decide +kernel), gs_t 1 (by decide +kernel) (by decide +kernel), by decide, by decide, by decide +kernel, by decide, by decide⟩
theorem ml_RX11_304 : Cond.methodLink RX11 304 yX11_isVoyage ∈ gs_tbl := gs_t 833 (by decide +kernel) (by decide +kernel)
theorem ss_X11_isVoyage : Cond.static yX11_isVoyage ∈ gs_tbl := gs_t 834 (by decide +kernel) (by decide +kernel)
theorem se_10_RX11_X11_lostOf : Cond.selects RX11 yX11_lostOf yX11_lostOf ∈ gs_tbl := gs_s 27 (by decide +kernel) (by decide +kernel)
theorem ml_RX11_307 : Cond.methodLink RX11 307 yX11_lostOf ∈ gs_tbl := gs_t 836 (by decide +kernel) (by decide +kernel)
theorem im_X11_lostOf : Cond.instanceMethod yX11_lostOf ∈ gs_tbl := gs_t 838 (by decide +kernel) (by decide +kernel)
theorem mf_X11_safe : gs_MF yX11_safe cX11_safe 6 (some .int) 5 := ⟨gs_t 832 (by decide +kernel) (by decide +kernel), gs_t 1 (by decide +kernel) (by decide +kernel), by decide, by decide, by decide +kernel, by decide, by decide⟩
theorem d_X11_feed_0 : gd cX11_feed 0 (.iload_n 1) 1 1 := ⟨by decide +kernel, rfl⟩
theorem d_X11_feed_1 : gd cX11_feed 1 (.invokestatic 113) 3 4 := ⟨by decide +kernel, rfl⟩
theorem d_X11_feed_4 : gd cX11_feed 4 (.iload_n 2) 1 5 := ⟨by decide +kernel, rfl⟩
theorem d_X11_feed_5 : gd cX11_feed 5 (.invokestatic 113) 3 8 := ⟨by decide +kernel, rfl⟩
theorem d_X11_feed_8 : gd cX11_feed 8 .iadd 1 9 := ⟨by decide +kernel, rfl⟩
theorem d_X11_feed_9 : gd cX11_feed 9 (.iload_n 3) 1 10 := ⟨by decide +kernel, rfl⟩
theorem d_X11_feed_10 : gd cX11_feed 10 (.invokestatic 113) 3 13 := ⟨by decide +kernel, rfl⟩
theorem d_X11_feed_13 : gd cX11_feed 13 .iadd 1 14 := ⟨by decide +kernel, rfl⟩
theorem d_X11_feed_14 : gd cX11_feed 14 (.iload 4) 2 16 := ⟨by decide +kernel, rfl⟩
theorem d_X11_feed_16 : gd cX11_feed 16 (.invokestatic 113) 3 19 := ⟨by decide +kernel, rfl⟩
theorem d_X11_feed_19 : gd cX11_feed 19 .iadd 1 20 := ⟨by decide +kernel, rfl⟩
theorem d_X11_feed_20 : gd cX11_feed 20 (.iload 5) 2 22 := ⟨by decide +kernel, rfl⟩
theorem d_X11_feed_22 : gd cX11_feed 22 (.invokestatic 113) 3 25 := ⟨by decide +kernel, rfl⟩
theorem d_X11_feed_25 : gd cX11_feed 25 .iadd 1 26 := ⟨by decide +kernel, rfl⟩
theorem d_X11_feed_26 : gd cX11_feed 26 (.istore 6) 2 28 := ⟨by decide +kernel, rfl⟩
theorem d_X11_feed_28 : gd cX11_feed 28 (.aload_n 0) 1 29 := ⟨by decide +kernel, rfl⟩
theorem d_X11_feed_29 : gd cX11_feed 29 (.getfield 10) 3 32 := ⟨by decide +kernel, rfl⟩
theorem d_X11_feed_32 : gd cX11_feed 32 (.getfield 117) 3 35 := ⟨by decide +kernel, rfl⟩
theorem d_X11_feed_35 : gd cX11_feed 35 (.iload 6) 2 37 := ⟨by decide +kernel, rfl⟩
theorem d_X11_feed_37 : gd cX11_feed 37 .iadd 1 38 := ⟨by decide +kernel, rfl⟩
theorem d_X11_feed_38 : gd cX11_feed 38 (.sipush 160) 3 41 := ⟨by decide +kernel, rfl⟩
theorem d_X11_feed_41 : gd cX11_feed 41 (.if_icmp .le 5) 3 44 := ⟨by decide +kernel, rfl⟩
theorem d_X11_feed_44 : gd cX11_feed 44 (.iconst (-1)) 1 45 := ⟨by decide +kernel, rfl⟩
theorem d_X11_feed_45 : gd cX11_feed 45 .ireturn 1 46 := ⟨by decide +kernel, rfl⟩
theorem d_X11_feed_46 : gd cX11_feed 46 (.aload_n 0) 1 47 := ⟨by decide +kernel, rfl⟩
theorem d_X11_feed_47 : gd cX11_feed 47 (.getfield 10) 3 50 := ⟨by decide +kernel, rfl⟩
theorem d_X11_feed_50 : gd cX11_feed 50 (.iload_n 1) 1 51 := ⟨by decide +kernel, rfl⟩
theorem d_X11_feed_51 : gd cX11_feed 51 (.invokevirtual 120) 3 54 := ⟨by decide +kernel, rfl⟩
theorem d_X11_feed_54 : gd cX11_feed 54 (.aload_n 0) 1 55 := ⟨by decide +kernel, rfl⟩
theorem d_X11_feed_55 : gd cX11_feed 55 (.getfield 10) 3 58 := ⟨by decide +kernel, rfl⟩
theorem d_X11_feed_58 : gd cX11_feed 58 (.iload_n 2) 1 59 := ⟨by decide +kernel, rfl⟩
theorem d_X11_feed_59 : gd cX11_feed 59 (.invokevirtual 120) 3 62 := ⟨by decide +kernel, rfl⟩
theorem d_X11_feed_62 : gd cX11_feed 62 (.aload_n 0) 1 63 := ⟨by decide +kernel, rfl⟩
theorem d_X11_feed_63 : gd cX11_feed 63 (.getfield 10) 3 66 := ⟨by decide +kernel, rfl⟩
theorem d_X11_feed_66 : gd cX11_feed 66 (.iload_n 3) 1 67 := ⟨by decide +kernel, rfl⟩
theorem d_X11_feed_67 : gd cX11_feed 67 (.invokevirtual 120) 3 70 := ⟨by decide +kernel, rfl⟩
theorem d_X11_feed_70 : gd cX11_feed 70 (.aload_n 0) 1 71 := ⟨by decide +kernel, rfl⟩
theorem d_X11_feed_71 : gd cX11_feed 71 (.getfield 10) 3 74 := ⟨by decide +kernel, rfl⟩
theorem d_X11_feed_74 : gd cX11_feed 74 (.iload 4) 2 76 := ⟨by decide +kernel, rfl⟩
theorem d_X11_feed_76 : gd cX11_feed 76 (.invokevirtual 120) 3 79 := ⟨by decide +kernel, rfl⟩
theorem d_X11_feed_79 : gd cX11_feed 79 (.aload_n 0) 1 80 := ⟨by decide +kernel, rfl⟩
theorem d_X11_feed_80 : gd cX11_feed 80 (.getfield 10) 3 83 := ⟨by decide +kernel, rfl⟩
theorem d_X11_feed_83 : gd cX11_feed 83 (.iload 5) 2 85 := ⟨by decide +kernel, rfl⟩
theorem d_X11_feed_85 : gd cX11_feed 85 (.invokevirtual 120) 3 88 := ⟨by decide +kernel, rfl⟩
theorem d_X11_feed_88 : gd cX11_feed 88 (.aload_n 0) 1 89 := ⟨by decide +kernel, rfl⟩
theorem d_X11_feed_89 : gd cX11_feed 89 (.getfield 10) 3 92 := ⟨by decide +kernel, rfl⟩
theorem d_X11_feed_92 : gd cX11_feed 92 (.getfield 117) 3 95 := ⟨by decide +kernel, rfl⟩
theorem d_X11_feed_95 : gd cX11_feed 95 .ireturn 1 96 := ⟨by decide +kernel, rfl⟩
def D_X11_feed (x1 : Int32) (x2 : Int32) (x3 : Int32) (x4 : Int32) (x5 : Int32) (μ : gs_M) : Option (Int32 × gs_M) :=
  bd (D_X8_signsIn x1 μ) (fun v3 u2 => bd (D_X8_signsIn x2 u2) (fun v6 u5 => bd (D_X8_signsIn x3 u5) (fun v9 u8 => bd (D_X8_signsIn x4 u8) (fun v12 u11 => bd (D_X8_signsIn x5 u11) (fun v15 u14 => lt1 ((((v3 + v6) + v9) + v12) + v15) (fun v16 => if ((gI u14 1 1) + v16) ≤ (160 : Int32) then (bd0 (D_X8_putWord x1 u14) (fun u19 => bd0 (D_X8_putWord x2 u19) (fun u21 => bd0 (D_X8_putWord x3 u21) (fun u23 => bd0 (D_X8_putWord x4 u23) (fun u25 => bd0 (D_X8_putWord x5 u25) (fun u27 => some (gI u27 1 1, u27))))))) else (some ((-1 : Int32), u14))))))))
section S_X11_feed
variable {p : Program} {l : Launch} {e : Env} {R : Room} {s : State} {m : MethodId} {args : Array Value} {below : List Frame} {meth : Method} {c : Code} {ad : Nat → Nat} {g : va_G} {tyc : Nat → ClassId}
set_option maxRecDepth 20000 in
theorem C_X11_feed  {x1 : Int32} {x2 : Int32} {x3 : Int32} {x4 : Int32} {x5 : Int32} {μ : gs_M} {r : Int32} {μ2 : gs_M}  (hD : D_X11_feed x1 x2 x3 x4 x5 μ = some (r, μ2)) : CALL yX11_feed cX11_feed 7 (some .int) 1 [.ref 0, .int x1, .int x2, .int x3, .int x4, .int x5] μ (some (.int r)) μ2 := by
  unfold D_X11_feed at hD
  refine gs_enter mf_X11_feed (Nat.le_of_ble_eq_true rfl) (ls := [.ref 0, .int x1, .int x2, .int x3, .int x4, .int x5, gs_J]) rfl (fun p l e R s m args below meth c ad g tyc hK => ?_)
  have hK : KC p R s m args meth c ad g tyc RX11 cX11_feed 7 (some .int) 1 := hK
  refine r_iload_n hK d_X11_feed_0 rfl rfl ?_
  obtain ⟨v3, u2, e1, hD⟩ := bd_e hD
  refine r_callS (As := [.int x1]) (st := []) (stk2 := [.int v3]) hK (C_X8_signsIn  e1) d_X11_feed_1 mf_X8_signsIn ml_RX11_113 ss_X8_signsIn rfl (Nat.le_of_ble_eq_true rfl) (by decide) ⟨Nat.zero_le _, Nat.zero_le _⟩ rfl rfl ?_
  refine r_iload_n hK d_X11_feed_4 rfl rfl ?_
  obtain ⟨v6, u5, e4, hD⟩ := bd_e hD
  refine r_callS (As := [.int x2]) (st := [.int v3]) (stk2 := [.int v6, .int v3]) hK (C_X8_signsIn  e4) d_X11_feed_5 mf_X8_signsIn ml_RX11_113 ss_X8_signsIn rfl (Nat.le_of_ble_eq_true rfl) (by decide) ⟨Nat.zero_le _, Nat.zero_le _⟩ rfl rfl ?_
  refine r_iadd hK d_X11_feed_8 ?_
  refine r_iload_n hK d_X11_feed_9 rfl rfl ?_
  obtain ⟨v9, u8, e7, hD⟩ := bd_e hD
  refine r_callS (As := [.int x3]) (st := [.int (v3 + v6)]) (stk2 := [.int v9, .int (v3 + v6)]) hK (C_X8_signsIn  e7) d_X11_feed_10 mf_X8_signsIn ml_RX11_113 ss_X8_signsIn rfl (Nat.le_of_ble_eq_true rfl) (by decide) ⟨Nat.zero_le _, Nat.zero_le _⟩ rfl rfl ?_
  refine r_iadd hK d_X11_feed_13 ?_
  refine r_iload hK d_X11_feed_14 rfl ?_
  obtain ⟨v12, u11, e10, hD⟩ := bd_e hD
  refine r_callS (As := [.int x4]) (st := [.int ((v3 + v6) + v9)]) (stk2 := [.int v12, .int ((v3 + v6) + v9)]) hK (C_X8_signsIn  e10) d_X11_feed_16 mf_X8_signsIn ml_RX11_113 ss_X8_signsIn rfl (Nat.le_of_ble_eq_true rfl) (by decide) ⟨Nat.zero_le _, Nat.zero_le _⟩ rfl rfl ?_
  refine r_iadd hK d_X11_feed_19 ?_
  refine r_iload hK d_X11_feed_20 rfl ?_
  obtain ⟨v15, u14, e13, hD⟩ := bd_e hD
  refine r_callS (As := [.int x5]) (st := [.int (((v3 + v6) + v9) + v12)]) (stk2 := [.int v15, .int (((v3 + v6) + v9) + v12)]) hK (C_X8_signsIn  e13) d_X11_feed_22 mf_X8_signsIn ml_RX11_113 ss_X8_signsIn rfl (Nat.le_of_ble_eq_true rfl) (by decide) ⟨Nat.zero_le _, Nat.zero_le _⟩ rfl rfl ?_
  refine r_iadd hK d_X11_feed_25 ?_
  refine r_lti hD (fun v16 hD => ?_)
  refine r_istore hK d_X11_feed_26 (by decide) (ls2 := [.ref 0, .int x1, .int x2, .int x3, .int x4, .int x5, .int v16]) rfl ?_
  refine r_aload_n hK d_X11_feed_28 rfl rfl ?_
  refine r_getR hK d_X11_feed_29 fl_RX11_10_10 rfl kd_0 ?_
  refine r_ref (b := 1) R0_0_0 ?_
  refine r_getI hK d_X11_feed_32 fl_RX11_117_7 rfl kd_1 ?_
  refine r_iload hK d_X11_feed_35 rfl ?_
  refine r_iadd hK d_X11_feed_37 ?_
  refine r_sipush hK d_X11_feed_38 cs_160 ?_
  refine r_icmp_le (tgt := 46) hK d_X11_feed_41 (by decide) (fun h17 => ?_) (fun h17 => ?_)
  · have hD := if_t hD h17
    refine r_aload_n hK d_X11_feed_46 rfl rfl ?_
    refine r_getR hK d_X11_feed_47 fl_RX11_10_10 rfl kd_0 ?_
    refine r_ref (b := 1) R0_0_0 ?_
    refine r_iload_n hK d_X11_feed_50 rfl rfl ?_
    obtain ⟨u19, e18, hD⟩ := bd0_e hD
    refine r_callV (As := [.int x1]) (st := []) (stk2 := []) hK (C_X8_putWord  e18) d_X11_feed_51 mf_X8_putWord ml_RX11_120 im_X8_putWord rfl se_7_RX8_X8_putWord kd_1 rfl (Nat.le_of_ble_eq_true rfl) (by decide) ⟨Nat.zero_le _, Nat.zero_le _⟩ rfl rfl ?_
    refine r_aload_n hK d_X11_feed_54 rfl rfl ?_
    refine r_getR hK d_X11_feed_55 fl_RX11_10_10 rfl kd_0 ?_
    refine r_ref (b := 1) R0_0_0 ?_
    refine r_iload_n hK d_X11_feed_58 rfl rfl ?_
    obtain ⟨u21, e20, hD⟩ := bd0_e hD
    refine r_callV (As := [.int x2]) (st := []) (stk2 := []) hK (C_X8_putWord  e20) d_X11_feed_59 mf_X8_putWord ml_RX11_120 im_X8_putWord rfl se_7_RX8_X8_putWord kd_1 rfl (Nat.le_of_ble_eq_true rfl) (by decide) ⟨Nat.zero_le _, Nat.zero_le _⟩ rfl rfl ?_
    refine r_aload_n hK d_X11_feed_62 rfl rfl ?_
    refine r_getR hK d_X11_feed_63 fl_RX11_10_10 rfl kd_0 ?_
    refine r_ref (b := 1) R0_0_0 ?_
    refine r_iload_n hK d_X11_feed_66 rfl rfl ?_
    obtain ⟨u23, e22, hD⟩ := bd0_e hD
    refine r_callV (As := [.int x3]) (st := []) (stk2 := []) hK (C_X8_putWord  e22) d_X11_feed_67 mf_X8_putWord ml_RX11_120 im_X8_putWord rfl se_7_RX8_X8_putWord kd_1 rfl (Nat.le_of_ble_eq_true rfl) (by decide) ⟨Nat.zero_le _, Nat.zero_le _⟩ rfl rfl ?_
    refine r_aload_n hK d_X11_feed_70 rfl rfl ?_
    refine r_getR hK d_X11_feed_71 fl_RX11_10_10 rfl kd_0 ?_
    refine r_ref (b := 1) R0_0_0 ?_
    refine r_iload hK d_X11_feed_74 rfl ?_
    obtain ⟨u25, e24, hD⟩ := bd0_e hD
    refine r_callV (As := [.int x4]) (st := []) (stk2 := []) hK (C_X8_putWord  e24) d_X11_feed_76 mf_X8_putWord ml_RX11_120 im_X8_putWord rfl se_7_RX8_X8_putWord kd_1 rfl (Nat.le_of_ble_eq_true rfl) (by decide) ⟨Nat.zero_le _, Nat.zero_le _⟩ rfl rfl ?_
    refine r_aload_n hK d_X11_feed_79 rfl rfl ?_
    refine r_getR hK d_X11_feed_80 fl_RX11_10_10 rfl kd_0 ?_
    refine r_ref (b := 1) R0_0_0 ?_
    refine r_iload hK d_X11_feed_83 rfl ?_
    obtain ⟨u27, e26, hD⟩ := bd0_e hD
    refine r_callV (As := [.int x5]) (st := []) (stk2 := []) hK (C_X8_putWord  e26) d_X11_feed_85 mf_X8_putWord ml_RX11_120 im_X8_putWord rfl se_7_RX8_X8_putWord kd_1 rfl (Nat.le_of_ble_eq_true rfl) (by decide) ⟨Nat.zero_le _, Nat.zero_le _⟩ rfl rfl ?_
    refine r_aload_n hK d_X11_feed_88 rfl rfl ?_
    refine r_getR hK d_X11_feed_89 fl_RX11_10_10 rfl kd_0 ?_
    refine r_ref (b := 1) R0_0_0 ?_
    refine r_getI hK d_X11_feed_92 fl_RX11_117_7 rfl kd_1 ?_
    cases hD
    exact r_iret hK d_X11_feed_95
  · have hD := if_f hD h17
    refine r_iconst hK d_X11_feed_44 ci_m1 ?_
    cases hD
    exact r_iret hK d_X11_feed_45
end S_X11_feed
theorem d_X11_end_0 : gd cX11_end 0 (.iload_n 1) 1 1 := ⟨by decide +kernel, rfl⟩
theorem d_X11_end_1 : gd cX11_end 1 (.iconst 0) 1 2 := ⟨by decide +kernel, rfl⟩
theorem d_X11_end_2 : gd cX11_end 2 (.aload_n 0) 1 3 := ⟨by decide +kernel, rfl⟩
theorem d_X11_end_3 : gd cX11_end 3 (.getfield 10) 3 6 := ⟨by decide +kernel, rfl⟩
theorem d_X11_end_6 : gd cX11_end 6 (.getfield 117) 3 9 := ⟨by decide +kernel, rfl⟩
theorem d_X11_end_9 : gd cX11_end 9 (.invokestatic 123) 3 12 := ⟨by decide +kernel, rfl⟩
theorem d_X11_end_12 : gd cX11_end 12 (.ifCond .ne 5) 3 15 := ⟨by decide +kernel, rfl⟩
theorem d_X11_end_15 : gd cX11_end 15 (.iconst 0) 1 16 := ⟨by decide +kernel, rfl⟩
theorem d_X11_end_16 : gd cX11_end 16 .ireturn 1 17 := ⟨by decide +kernel, rfl⟩
theorem d_X11_end_17 : gd cX11_end 17 (.aload_n 0) 1 18 := ⟨by decide +kernel, rfl⟩
theorem d_X11_end_18 : gd cX11_end 18 (.getfield 10) 3 21 := ⟨by decide +kernel, rfl⟩
theorem d_X11_end_21 : gd cX11_end 21 (.iload_n 1) 1 22 := ⟨by decide +kernel, rfl⟩
theorem d_X11_end_22 : gd cX11_end 22 (.putfield 117) 3 25 := ⟨by decide +kernel, rfl⟩
theorem d_X11_end_25 : gd cX11_end 25 (.iconst 1) 1 26 := ⟨by decide +kernel, rfl⟩
theorem d_X11_end_26 : gd cX11_end 26 .ireturn 1 27 := ⟨by decide +kernel, rfl⟩
def D_X11_end (x1 : Int32) (μ : gs_M) : Option (Int32 × gs_M) :=
  bd (D_X11_within x1 (0 : Int32) (gI μ 1 1) μ) (fun v3 u2 => if v3 = 0 then (some ((0 : Int32), u2)) else (lt1 (sI u2 1 1 x1) (fun u5 => some ((1 : Int32), u5))))
section S_X11_end
variable {p : Program} {l : Launch} {e : Env} {R : Room} {s : State} {m : MethodId} {args : Array Value} {below : List Frame} {meth : Method} {c : Code} {ad : Nat → Nat} {g : va_G} {tyc : Nat → ClassId}
set_option maxRecDepth 20000 in
theorem C_X11_end  {x1 : Int32} {μ : gs_M} {r : Int32} {μ2 : gs_M}  (hD : D_X11_end x1 μ = some (r, μ2)) : CALL yX11_end cX11_end 2 (some .boolean) 1 [.ref 0, .int x1] μ (some (.int r)) μ2 := by
  unfold D_X11_end at hD
  refine gs_enter mf_X11_end (Nat.le_of_ble_eq_true rfl) (ls := [.ref 0, .int x1]) rfl (fun p l e R s m args below meth c ad g tyc hK => ?_)
  have hK : KC p R s m args meth c ad g tyc RX11 cX11_end 2 (some .boolean) 1 := hK
  refine r_iload_n hK d_X11_end_0 rfl rfl ?_
  refine r_iconst hK d_X11_end_1 ci_0 ?_
  refine r_aload_n hK d_X11_end_2 rfl rfl ?_
  refine r_getR hK d_X11_end_3 fl_RX11_10_10 rfl kd_0 ?_
  refine r_ref (b := 1) R0_0_0 ?_
  refine r_getI hK d_X11_end_6 fl_RX11_117_7 rfl kd_1 ?_
  obtain ⟨v3, u2, e1, hD⟩ := bd_e hD
  refine r_callS (As := [.int x1, .int (0 : Int32), .int (gI μ 1 1)]) (st := []) (stk2 := [.int v3]) hK (C_X11_within  e1) d_X11_end_9 mf_X11_within ml_RX11_123 ss_X11_within rfl (Nat.le_of_ble_eq_true rfl) (by decide) ⟨Nat.zero_le _, Nat.zero_le _⟩ rfl rfl ?_
  refine r_if_ne (tgt := 17) hK d_X11_end_12 (by decide) (fun h4 => ?_) (fun h4 => ?_)
  · have hD := if_f hD h4
    refine r_aload_n hK d_X11_end_17 rfl rfl ?_
    refine r_getR hK d_X11_end_18 fl_RX11_10_10 rfl kd_0 ?_
    refine r_ref (b := 1) R0_0_0 ?_
    refine r_iload_n hK d_X11_end_21 rfl rfl ?_
    refine r_putI hK d_X11_end_22 fl_RX11_117_7 rfl rfl kd_1 ?_
    refine r_ltm hD (fun u5 hD => ?_)
    refine r_iconst hK d_X11_end_25 ci_1 ?_
    cases hD
    exact r_zret hK (Or.inr rfl) d_X11_end_26
  · have hD := if_t hD h4
    refine r_iconst hK d_X11_end_15 ci_0 ?_
    cases hD
    exact r_zret hK (Or.inl rfl) d_X11_end_16
end S_X11_end
theorem d_X11_fault_0 : gd cX11_fault 0 (.iload_n 1) 1 1 := ⟨by decide +kernel, rfl⟩
theorem d_X11_fault_1 : gd cX11_fault 1 (.iconst 0) 1 2 := ⟨by decide +kernel, rfl⟩
theorem d_X11_fault_2 : gd cX11_fault 2 (.iconst 3) 1 3 := ⟨by decide +kernel, rfl⟩
theorem d_X11_fault_3 : gd cX11_fault 3 (.invokestatic 123) 3 6 := ⟨by decide +kernel, rfl⟩
theorem d_X11_fault_6 : gd cX11_fault 6 (.ifCond .ne 6) 3 9 := ⟨by decide +kernel, rfl⟩
theorem d_X11_fault_9 : gd cX11_fault 9 (.bipush (-2)) 2 11 := ⟨by decide +kernel, rfl⟩
theorem d_X11_fault_11 : gd cX11_fault 11 .ireturn 1 12 := ⟨by decide +kernel, rfl⟩
theorem d_X11_fault_12 : gd cX11_fault 12 (.iload_n 1) 1 13 := ⟨by decide +kernel, rfl⟩
theorem d_X11_fault_13 : gd cX11_fault 13 (.iconst 3) 1 14 := ⟨by decide +kernel, rfl⟩
theorem d_X11_fault_14 : gd cX11_fault 14 (.if_icmp .ne 13) 3 17 := ⟨by decide +kernel, rfl⟩
theorem d_X11_fault_17 : gd cX11_fault 17 (.aload_n 0) 1 18 := ⟨by decide +kernel, rfl⟩
theorem d_X11_fault_18 : gd cX11_fault 18 (.getfield 28) 3 21 := ⟨by decide +kernel, rfl⟩
theorem d_X11_fault_21 : gd cX11_fault 21 (.invokevirtual 127) 3 24 := ⟨by decide +kernel, rfl⟩
theorem d_X11_fault_24 : gd cX11_fault 24 (.goto 11) 3 27 := ⟨by decide +kernel, rfl⟩
theorem d_X11_fault_27 : gd cX11_fault 27 (.aload_n 0) 1 28 := ⟨by decide +kernel, rfl⟩
theorem d_X11_fault_28 : gd cX11_fault 28 (.getfield 21) 3 31 := ⟨by decide +kernel, rfl⟩
theorem d_X11_fault_31 : gd cX11_fault 31 (.iload_n 1) 1 32 := ⟨by decide +kernel, rfl⟩
theorem d_X11_fault_32 : gd cX11_fault 32 (.invokevirtual 131) 3 35 := ⟨by decide +kernel, rfl⟩
theorem d_X11_fault_35 : gd cX11_fault 35 .ireturn 1 36 := ⟨by decide +kernel, rfl⟩
def D_X11_fault (x1 : Int32) (μ : gs_M) : Option (Int32 × gs_M) :=
  bd (D_X11_within x1 (0 : Int32) (3 : Int32) μ) (fun v3 u2 => if v3 = 0 then (some ((-2 : Int32), u2)) else (if x1 = (3 : Int32) then (bd (D_X5_readAll u2) (fun v11 u10 => some (v11, u10))) else (bd (D_X2_readAll x1 u2) (fun v8 u7 => some (v8, u7)))))
section S_X11_fault
variable {p : Program} {l : Launch} {e : Env} {R : Room} {s : State} {m : MethodId} {args : Array Value} {below : List Frame} {meth : Method} {c : Code} {ad : Nat → Nat} {g : va_G} {tyc : Nat → ClassId}
set_option maxRecDepth 20000 in
theorem C_X11_fault  {x1 : Int32} {μ : gs_M} {r : Int32} {μ2 : gs_M}  (hD : D_X11_fault x1 μ = some (r, μ2)) : CALL yX11_fault cX11_fault 2 (some .int) 77 [.ref 0, .int x1] μ (some (.int r)) μ2 := by
  unfold D_X11_fault at hD
  refine gs_enter mf_X11_fault (Nat.le_of_ble_eq_true rfl) (ls := [.ref 0, .int x1]) rfl (fun p l e R s m args below meth c ad g tyc hK => ?_)
  have hK : KC p R s m args meth c ad g tyc RX11 cX11_fault 2 (some .int) 77 := hK
  refine r_iload_n hK d_X11_fault_0 rfl rfl ?_
  refine r_iconst hK d_X11_fault_1 ci_0 ?_
  refine r_iconst hK d_X11_fault_2 ci_3 ?_
  obtain ⟨v3, u2, e1, hD⟩ := bd_e hD
  refine r_callS (As := [.int x1, .int (0 : Int32), .int (3 : Int32)]) (st := []) (stk2 := [.int v3]) hK (C_X11_within  e1) d_X11_fault_3 mf_X11_within ml_RX11_123 ss_X11_within rfl (Nat.le_of_ble_eq_true rfl) (by decide) ⟨Nat.zero_le _, Nat.zero_le _⟩ rfl rfl ?_
  refine r_if_ne (tgt := 12) hK d_X11_fault_6 (by decide) (fun h4 => ?_) (fun h4 => ?_)
  · have hD := if_f hD h4
    refine r_iload_n hK d_X11_fault_12 rfl rfl ?_
    refine r_iconst hK d_X11_fault_13 ci_3 ?_
    refine r_icmp_ne (tgt := 27) hK d_X11_fault_14 (by decide) (fun h5 => ?_) (fun h5 => ?_)
    · have hD := if_f hD h5
      refine r_aload_n hK d_X11_fault_27 rfl rfl ?_
      refine r_getR hK d_X11_fault_28 fl_RX11_21_10 rfl kd_0 ?_
      refine r_ref (b := 3) R0_0_1 ?_
      refine r_iload_n hK d_X11_fault_31 rfl rfl ?_
      obtain ⟨v8, u7, e6, hD⟩ := bd_e hD
      refine r_callV (As := [.int x1]) (st := []) (stk2 := [.int v8]) hK (C_X2_readAll  e6) d_X11_fault_32 mf_X2_readAll ml_RX11_131 im_X2_readAll rfl se_2_RX2_X2_readAll kd_3 rfl (Nat.le_of_ble_eq_true rfl) (by decide) ⟨Nat.zero_le _, Nat.zero_le _⟩ rfl rfl ?_
      cases hD
      exact r_iret hK d_X11_fault_35
    · have hD := if_t hD h5
      refine r_aload_n hK d_X11_fault_17 rfl rfl ?_
      refine r_getR hK d_X11_fault_18 fl_RX11_28_10 rfl kd_0 ?_
      refine r_ref (b := 5) R0_0_2 ?_
      obtain ⟨v11, u10, e9, hD⟩ := bd_e hD
      refine r_callV (As := []) (st := []) (stk2 := [.int v11]) hK (C_X5_readAll  e9) d_X11_fault_21 mf_X5_readAll ml_RX11_127 im_X5_readAll rfl se_4_RX5_X5_readAll kd_5 rfl (Nat.le_of_ble_eq_true rfl) (by decide) ⟨Nat.zero_le _, Nat.zero_le _⟩ rfl rfl ?_
      refine r_goto (tgt := 35) hK d_X11_fault_24 (by decide) ?_
      cases hD
      exact r_iret hK d_X11_fault_35
  · have hD := if_t hD h4
    refine r_bipush hK d_X11_fault_9 cb_m2 ?_
    cases hD
    exact r_iret hK d_X11_fault_11
end S_X11_fault
theorem d_X11_keepWhatWasRead_0 : gd cX11_keepWhatWasRead 0 (.iload_n 1) 1 1 := ⟨by decide +kernel, rfl⟩
theorem d_X11_keepWhatWasRead_1 : gd cX11_keepWhatWasRead 1 (.tableswitch 63 0 2 #[27, 39, 51]) 27 28 := ⟨by decide +kernel, rfl⟩
theorem d_X11_keepWhatWasRead_28 : gd cX11_keepWhatWasRead 28 (.aload_n 0) 1 29 := ⟨by decide +kernel, rfl⟩
theorem d_X11_keepWhatWasRead_29 : gd cX11_keepWhatWasRead 29 (.getfield 37) 3 32 := ⟨by decide +kernel, rfl⟩
theorem d_X11_keepWhatWasRead_32 : gd cX11_keepWhatWasRead 32 (.aload_n 0) 1 33 := ⟨by decide +kernel, rfl⟩
theorem d_X11_keepWhatWasRead_33 : gd cX11_keepWhatWasRead 33 (.getfield 21) 3 36 := ⟨by decide +kernel, rfl⟩
theorem d_X11_keepWhatWasRead_36 : gd cX11_keepWhatWasRead 36 (.invokevirtual 136) 3 39 := ⟨by decide +kernel, rfl⟩
theorem d_X11_keepWhatWasRead_39 : gd cX11_keepWhatWasRead 39 .ireturn 1 40 := ⟨by decide +kernel, rfl⟩
theorem d_X11_keepWhatWasRead_40 : gd cX11_keepWhatWasRead 40 (.aload_n 0) 1 41 := ⟨by decide +kernel, rfl⟩
theorem d_X11_keepWhatWasRead_41 : gd cX11_keepWhatWasRead 41 (.getfield 41) 3 44 := ⟨by decide +kernel, rfl⟩
theorem d_X11_keepWhatWasRead_44 : gd cX11_keepWhatWasRead 44 (.aload_n 0) 1 45 := ⟨by decide +kernel, rfl⟩
theorem d_X11_keepWhatWasRead_45 : gd cX11_keepWhatWasRead 45 (.getfield 21) 3 48 := ⟨by decide +kernel, rfl⟩
theorem d_X11_keepWhatWasRead_48 : gd cX11_keepWhatWasRead 48 (.invokevirtual 136) 3 51 := ⟨by decide +kernel, rfl⟩
theorem d_X11_keepWhatWasRead_51 : gd cX11_keepWhatWasRead 51 .ireturn 1 52 := ⟨by decide +kernel, rfl⟩
theorem d_X11_keepWhatWasRead_52 : gd cX11_keepWhatWasRead 52 (.aload_n 0) 1 53 := ⟨by decide +kernel, rfl⟩
theorem d_X11_keepWhatWasRead_53 : gd cX11_keepWhatWasRead 53 (.getfield 44) 3 56 := ⟨by decide +kernel, rfl⟩
theorem d_X11_keepWhatWasRead_56 : gd cX11_keepWhatWasRead 56 (.aload_n 0) 1 57 := ⟨by decide +kernel, rfl⟩
theorem d_X11_keepWhatWasRead_57 : gd cX11_keepWhatWasRead 57 (.getfield 21) 3 60 := ⟨by decide +kernel, rfl⟩
theorem d_X11_keepWhatWasRead_60 : gd cX11_keepWhatWasRead 60 (.invokevirtual 136) 3 63 := ⟨by decide +kernel, rfl⟩
theorem d_X11_keepWhatWasRead_63 : gd cX11_keepWhatWasRead 63 .ireturn 1 64 := ⟨by decide +kernel, rfl⟩
theorem d_X11_keepWhatWasRead_64 : gd cX11_keepWhatWasRead 64 (.aload_n 0) 1 65 := ⟨by decide +kernel, rfl⟩
theorem d_X11_keepWhatWasRead_65 : gd cX11_keepWhatWasRead 65 (.getfield 50) 3 68 := ⟨by decide +kernel, rfl⟩
theorem d_X11_keepWhatWasRead_68 : gd cX11_keepWhatWasRead 68 (.aload_n 0) 1 69 := ⟨by decide +kernel, rfl⟩
theorem d_X11_keepWhatWasRead_69 : gd cX11_keepWhatWasRead 69 (.getfield 28) 3 72 := ⟨by decide +kernel, rfl⟩
theorem d_X11_keepWhatWasRead_72 : gd cX11_keepWhatWasRead 72 (.invokevirtual 140) 3 75 := ⟨by decide +kernel, rfl⟩
theorem d_X11_keepWhatWasRead_75 : gd cX11_keepWhatWasRead 75 .ireturn 1 76 := ⟨by decide +kernel, rfl⟩
def D_X11_keepWhatWasRead (x1 : Int32) (μ : gs_M) : Option (Int32 × gs_M) :=
  lt1 x1 (fun v1 => if v1 = (0 : Int32) then (bd (D_X9_keep 7 μ) (fun v5 u4 => some (v5, u4))) else (if v1 = (1 : Int32) then (bd (D_X9_keep 10 μ) (fun v9 u8 => some (v9, u8))) else (if v1 = (2 : Int32) then (bd (D_X9_keep 13 μ) (fun v13 u12 => some (v13, u12))) else (bd (D_X6_keep μ) (fun v16 u15 => some (v16, u15))))))
section S_X11_keepWhatWasRead
variable {p : Program} {l : Launch} {e : Env} {R : Room} {s : State} {m : MethodId} {args : Array Value} {below : List Frame} {meth : Method} {c : Code} {ad : Nat → Nat} {g : va_G} {tyc : Nat → ClassId}
set_option maxRecDepth 20000 in
theorem C_X11_keepWhatWasRead  {x1 : Int32} {μ : gs_M} {r : Int32} {μ2 : gs_M}  (hD : D_X11_keepWhatWasRead x1 μ = some (r, μ2)) : CALL yX11_keepWhatWasRead cX11_keepWhatWasRead 2 (some .int) 1 [.ref 0, .int x1] μ (some (.int r)) μ2 := by
  unfold D_X11_keepWhatWasRead at hD
  refine gs_enter mf_X11_keepWhatWasRead (Nat.le_of_ble_eq_true rfl) (ls := [.ref 0, .int x1]) rfl (fun p l e R s m args below meth c ad g tyc hK => ?_)
  have hK : KC p R s m args meth c ad g tyc RX11 cX11_keepWhatWasRead 2 (some .int) 1 := hK
  refine r_iload_n hK d_X11_keepWhatWasRead_0 rfl rfl ?_
  refine r_lti hD (fun v1 hD => ?_)
  by_cases h2 : v1 = (0 : Int32)
  · subst h2
    have hD := if_t hD rfl
    refine r_tableIn (off := 27) (tgt := 28) hK d_X11_keepWhatWasRead_1 (by decide) (by decide) (by decide) (by decide) ?_
    refine r_aload_n hK d_X11_keepWhatWasRead_28 rfl rfl ?_
    refine r_getR hK d_X11_keepWhatWasRead_29 fl_RX11_37_10 rfl kd_0 ?_
    refine r_ref (b := 7) R0_0_3 ?_
    refine r_aload_n hK d_X11_keepWhatWasRead_32 rfl rfl ?_
    refine r_getR hK d_X11_keepWhatWasRead_33 fl_RX11_21_10 rfl kd_0 ?_
    refine r_ref (b := 3) R0_0_1 ?_
    obtain ⟨v5, u4, e3, hD⟩ := bd_e hD
    refine r_callV (As := [.ref 3]) (st := []) (stk2 := [.int v5]) hK (C_X9_keep kd_7 e3) d_X11_keepWhatWasRead_36 mf_X9_keep ml_RX11_136 im_X9_keep rfl se_8_RX9_X9_keep kd_7 rfl (Nat.le_of_ble_eq_true rfl) (by decide) ⟨Nat.zero_le _, Nat.zero_le _⟩ rfl rfl ?_
    cases hD
    exact r_iret hK d_X11_keepWhatWasRead_39
  have hD := if_f hD h2
  by_cases h6 : v1 = (1 : Int32)
  · subst h6
    have hD := if_t hD rfl
    refine r_tableIn (off := 39) (tgt := 40) hK d_X11_keepWhatWasRead_1 (by decide) (by decide) (by decide) (by decide) ?_
    refine r_aload_n hK d_X11_keepWhatWasRead_40 rfl rfl ?_
    refine r_getR hK d_X11_keepWhatWasRead_41 fl_RX11_41_10 rfl kd_0 ?_
    refine r_ref (b := 10) R0_0_4 ?_
    refine r_aload_n hK d_X11_keepWhatWasRead_44 rfl rfl ?_
    refine r_getR hK d_X11_keepWhatWasRead_45 fl_RX11_21_10 rfl kd_0 ?_
    refine r_ref (b := 3) R0_0_1 ?_
    obtain ⟨v9, u8, e7, hD⟩ := bd_e hD
    refine r_callV (As := [.ref 3]) (st := []) (stk2 := [.int v9]) hK (C_X9_keep kd_10 e7) d_X11_keepWhatWasRead_48 mf_X9_keep ml_RX11_136 im_X9_keep rfl se_8_RX9_X9_keep kd_10 rfl (Nat.le_of_ble_eq_true rfl) (by decide) ⟨Nat.zero_le _, Nat.zero_le _⟩ rfl rfl ?_
    cases hD
    exact r_iret hK d_X11_keepWhatWasRead_51
  have hD := if_f hD h6
  by_cases h10 : v1 = (2 : Int32)
  · subst h10
    have hD := if_t hD rfl
    refine r_tableIn (off := 51) (tgt := 52) hK d_X11_keepWhatWasRead_1 (by decide) (by decide) (by decide) (by decide) ?_
    refine r_aload_n hK d_X11_keepWhatWasRead_52 rfl rfl ?_
    refine r_getR hK d_X11_keepWhatWasRead_53 fl_RX11_44_10 rfl kd_0 ?_
    refine r_ref (b := 13) R0_0_5 ?_
    refine r_aload_n hK d_X11_keepWhatWasRead_56 rfl rfl ?_
    refine r_getR hK d_X11_keepWhatWasRead_57 fl_RX11_21_10 rfl kd_0 ?_
    refine r_ref (b := 3) R0_0_1 ?_
    obtain ⟨v13, u12, e11, hD⟩ := bd_e hD
    refine r_callV (As := [.ref 3]) (st := []) (stk2 := [.int v13]) hK (C_X9_keep kd_13 e11) d_X11_keepWhatWasRead_60 mf_X9_keep ml_RX11_136 im_X9_keep rfl se_8_RX9_X9_keep kd_13 rfl (Nat.le_of_ble_eq_true rfl) (by decide) ⟨Nat.zero_le _, Nat.zero_le _⟩ rfl rfl ?_
    cases hD
    exact r_iret hK d_X11_keepWhatWasRead_63
  have hD := if_f hD h10
  refine r_tableOut (tgt := 64) hK d_X11_keepWhatWasRead_1 (sw_out (fun k q1 q2 => by rcases (show k = 0 ∨ k = 1 ∨ k = 2 by omega) with rfl | rfl | rfl <;> assumption)) (by decide) ?_
  refine r_aload_n hK d_X11_keepWhatWasRead_64 rfl rfl ?_
  refine r_getR hK d_X11_keepWhatWasRead_65 fl_RX11_50_10 rfl kd_0 ?_
  refine r_ref (b := 16) R0_0_6 ?_
  refine r_aload_n hK d_X11_keepWhatWasRead_68 rfl rfl ?_
  refine r_getR hK d_X11_keepWhatWasRead_69 fl_RX11_28_10 rfl kd_0 ?_
  refine r_ref (b := 5) R0_0_2 ?_
  obtain ⟨v16, u15, e14, hD⟩ := bd_e hD
  refine r_callV (As := [.ref 5]) (st := []) (stk2 := [.int v16]) hK (C_X6_keep  e14) d_X11_keepWhatWasRead_72 mf_X6_keep ml_RX11_140 im_X6_keep rfl se_5_RX6_X6_keep kd_16 rfl (Nat.le_of_ble_eq_true rfl) (by decide) ⟨Nat.zero_le _, Nat.zero_le _⟩ rfl rfl ?_
  cases hD
  exact r_iret hK d_X11_keepWhatWasRead_75
end S_X11_keepWhatWasRead
theorem d_X11_text_0 : gd cX11_text 0 (.iload_n 1) 1 1 := ⟨by decide +kernel, rfl⟩
theorem d_X11_text_1 : gd cX11_text 1 (.iconst 0) 1 2 := ⟨by decide +kernel, rfl⟩
theorem d_X11_text_2 : gd cX11_text 2 (.iconst 3) 1 3 := ⟨by decide +kernel, rfl⟩
theorem d_X11_text_3 : gd cX11_text 3 (.invokestatic 123) 3 6 := ⟨by decide +kernel, rfl⟩
theorem d_X11_text_6 : gd cX11_text 6 (.ifCond .ne 5) 3 9 := ⟨by decide +kernel, rfl⟩
theorem d_X11_text_9 : gd cX11_text 9 (.iconst (-1)) 1 10 := ⟨by decide +kernel, rfl⟩
theorem d_X11_text_10 : gd cX11_text 10 .ireturn 1 11 := ⟨by decide +kernel, rfl⟩
theorem d_X11_text_11 : gd cX11_text 11 (.iload_n 1) 1 12 := ⟨by decide +kernel, rfl⟩
theorem d_X11_text_12 : gd cX11_text 12 (.iconst 3) 1 13 := ⟨by decide +kernel, rfl⟩
theorem d_X11_text_13 : gd cX11_text 13 (.if_icmp .ne 13) 3 16 := ⟨by decide +kernel, rfl⟩
theorem d_X11_text_16 : gd cX11_text 16 (.aload_n 0) 1 17 := ⟨by decide +kernel, rfl⟩
theorem d_X11_text_17 : gd cX11_text 17 (.getfield 28) 3 20 := ⟨by decide +kernel, rfl⟩
theorem d_X11_text_20 : gd cX11_text 20 (.invokevirtual 127) 3 23 := ⟨by decide +kernel, rfl⟩
theorem d_X11_text_23 : gd cX11_text 23 (.goto 11) 3 26 := ⟨by decide +kernel, rfl⟩
theorem d_X11_text_26 : gd cX11_text 26 (.aload_n 0) 1 27 := ⟨by decide +kernel, rfl⟩
theorem d_X11_text_27 : gd cX11_text 27 (.getfield 21) 3 30 := ⟨by decide +kernel, rfl⟩
theorem d_X11_text_30 : gd cX11_text 30 (.iload_n 1) 1 31 := ⟨by decide +kernel, rfl⟩
theorem d_X11_text_31 : gd cX11_text 31 (.invokevirtual 131) 3 34 := ⟨by decide +kernel, rfl⟩
theorem d_X11_text_34 : gd cX11_text 34 (.istore_n 2) 1 35 := ⟨by decide +kernel, rfl⟩
theorem d_X11_text_35 : gd cX11_text 35 (.iload_n 2) 1 36 := ⟨by decide +kernel, rfl⟩
theorem d_X11_text_36 : gd cX11_text 36 (.iconst (-1)) 1 37 := ⟨by decide +kernel, rfl⟩
theorem d_X11_text_37 : gd cX11_text 37 (.if_icmp .ne 11) 3 40 := ⟨by decide +kernel, rfl⟩
theorem d_X11_text_40 : gd cX11_text 40 (.aload_n 0) 1 41 := ⟨by decide +kernel, rfl⟩
theorem d_X11_text_41 : gd cX11_text 41 (.iload_n 1) 1 42 := ⟨by decide +kernel, rfl⟩
theorem d_X11_text_42 : gd cX11_text 42 (.invokevirtual 133) 3 45 := ⟨by decide +kernel, rfl⟩
theorem d_X11_text_45 : gd cX11_text 45 (.goto 4) 3 48 := ⟨by decide +kernel, rfl⟩
theorem d_X11_text_48 : gd cX11_text 48 (.iconst (-1)) 1 49 := ⟨by decide +kernel, rfl⟩
theorem d_X11_text_49 : gd cX11_text 49 (.istore_n 3) 1 50 := ⟨by decide +kernel, rfl⟩
theorem d_X11_text_50 : gd cX11_text 50 (.iload_n 3) 1 51 := ⟨by decide +kernel, rfl⟩
theorem d_X11_text_51 : gd cX11_text 51 (.iconst (-1)) 1 52 := ⟨by decide +kernel, rfl⟩
theorem d_X11_text_52 : gd cX11_text 52 (.if_icmp .eq 11) 3 55 := ⟨by decide +kernel, rfl⟩
theorem d_X11_text_55 : gd cX11_text 55 (.aload_n 0) 1 56 := ⟨by decide +kernel, rfl⟩
theorem d_X11_text_56 : gd cX11_text 56 (.getfield 10) 3 59 := ⟨by decide +kernel, rfl⟩
theorem d_X11_text_59 : gd cX11_text 59 (.iconst 0) 1 60 := ⟨by decide +kernel, rfl⟩
theorem d_X11_text_60 : gd cX11_text 60 (.putfield 117) 3 63 := ⟨by decide +kernel, rfl⟩
theorem d_X11_text_63 : gd cX11_text 63 (.iload_n 3) 1 64 := ⟨by decide +kernel, rfl⟩
theorem d_X11_text_64 : gd cX11_text 64 .ireturn 1 65 := ⟨by decide +kernel, rfl⟩
def B_X11_text_49  (xs0 : Int32) (μ : gs_M) : Option (Int32 × gs_M) :=
  if xs0 = (-1 : Int32) then (some (xs0, μ)) else (lt1 (sI μ 1 1 (0 : Int32)) (fun u2 => some (xs0, u2)))
def B_X11_text_34  (x1 : Int32) (xs0 : Int32) (μ : gs_M) : Option (Int32 × gs_M) :=
  if xs0 = (-1 : Int32) then (bd (D_X11_keepWhatWasRead x1 μ) (fun v4 u3 => B_X11_text_49 v4 u3)) else (B_X11_text_49 (-1 : Int32) μ)
def D_X11_text (x1 : Int32) (μ : gs_M) : Option (Int32 × gs_M) :=
  bd (D_X11_within x1 (0 : Int32) (3 : Int32) μ) (fun v3 u2 => if v3 = 0 then (some ((-1 : Int32), u2)) else (if x1 = (3 : Int32) then (bd (D_X5_readAll u2) (fun v11 u10 => B_X11_text_34 x1 v11 u10)) else (bd (D_X2_readAll x1 u2) (fun v8 u7 => B_X11_text_34 x1 v8 u7))))
section S_X11_text
variable {p : Program} {l : Launch} {e : Env} {R : Room} {s : State} {m : MethodId} {args : Array Value} {below : List Frame} {meth : Method} {c : Code} {ad : Nat → Nat} {g : va_G} {tyc : Nat → ClassId}
set_option maxRecDepth 20000 in
theorem T_X11_text_49  (hK : KC p R s m args meth c ad g tyc RX11 cX11_text 4 (some .int) 77) {r : Int32} {μ2 : gs_M}   {xs0 : Int32} {μ : gs_M}  (hD : B_X11_text_49  xs0 μ = some (r, μ2)) : WJ p l e R s m args below meth c 0 0 (MQ below (gs_Q ad g tyc (some (.int r)) μ2) args s 0 0 (gs_A ad)) ad g tyc 4 49 [.ref 0, gs_J, gs_J, gs_J] [.int xs0] μ := by
  unfold B_X11_text_49 at hD
  refine r_istore_n hK d_X11_text_49 rfl (by decide) (ls2 := [.ref 0, gs_J, gs_J, .int xs0]) rfl ?_
  refine r_iload_n hK d_X11_text_50 rfl rfl ?_
  refine r_iconst hK d_X11_text_51 ci_m1 ?_
  refine r_icmp_eq (tgt := 63) hK d_X11_text_52 (by decide) (fun h1 => ?_) (fun h1 => ?_)
  · have hD := if_t hD h1
    refine r_iload_n hK d_X11_text_63 rfl rfl ?_
    cases hD
    exact r_iret hK d_X11_text_64
  · have hD := if_f hD h1
    refine r_aload_n hK d_X11_text_55 rfl rfl ?_
    refine r_getR hK d_X11_text_56 fl_RX11_10_10 rfl kd_0 ?_
    refine r_ref (b := 1) R0_0_0 ?_
    refine r_iconst hK d_X11_text_59 ci_0 ?_
    refine r_putI hK d_X11_text_60 fl_RX11_117_7 rfl rfl kd_1 ?_
    refine r_ltm hD (fun u2 hD => ?_)
    refine r_iload_n hK d_X11_text_63 rfl rfl ?_
    cases hD
    exact r_iret hK d_X11_text_64
set_option maxRecDepth 20000 in
theorem T_X11_text_34  (hK : KC p R s m args meth c ad g tyc RX11 cX11_text 4 (some .int) 77) {r : Int32} {μ2 : gs_M}   {x1 : Int32} {xs0 : Int32} {μ : gs_M}  (hD : B_X11_text_34  x1 xs0 μ = some (r, μ2)) : WJ p l e R s m args below meth c 0 0 (MQ below (gs_Q ad g tyc (some (.int r)) μ2) args s 0 0 (gs_A ad)) ad g tyc 4 34 [.ref 0, .int x1, gs_J, gs_J] [.int xs0] μ := by
  unfold B_X11_text_34 at hD
  refine r_istore_n hK d_X11_text_34 rfl (by decide) (ls2 := [.ref 0, .int x1, .int xs0, gs_J]) rfl ?_
  refine r_iload_n hK d_X11_text_35 rfl rfl ?_
  refine r_iconst hK d_X11_text_36 ci_m1 ?_
  refine r_icmp_ne (tgt := 48) hK d_X11_text_37 (by decide) (fun h1 => ?_) (fun h1 => ?_)
  · have hD := if_f hD h1
    refine r_iconst hK d_X11_text_48 ci_m1 ?_
    refine r_junk [true, false, false, false] (ls2 := [.ref 0, gs_J, gs_J, gs_J]) rfl ?_
    exact T_X11_text_49 hK   hD
  · have hD := if_t hD h1
    refine r_aload_n hK d_X11_text_40 rfl rfl ?_
    refine r_iload_n hK d_X11_text_41 rfl rfl ?_
    obtain ⟨v4, u3, e2, hD⟩ := bd_e hD
    refine r_callV (As := [.int x1]) (st := []) (stk2 := [.int v4]) hK (C_X11_keepWhatWasRead  e2) d_X11_text_42 mf_X11_keepWhatWasRead ml_RX11_133 im_X11_keepWhatWasRead rfl se_10_RX11_X11_keepWhatWasRead kd_0 rfl (Nat.le_of_ble_eq_true rfl) (by decide) ⟨Nat.zero_le _, Nat.zero_le _⟩ rfl rfl ?_
    refine r_goto (tgt := 49) hK d_X11_text_45 (by decide) ?_
    refine r_junk [true, false, false, false] (ls2 := [.ref 0, gs_J, gs_J, gs_J]) rfl ?_
    exact T_X11_text_49 hK   hD
set_option maxRecDepth 20000 in
theorem C_X11_text  {x1 : Int32} {μ : gs_M} {r : Int32} {μ2 : gs_M}  (hD : D_X11_text x1 μ = some (r, μ2)) : CALL yX11_text cX11_text 4 (some .int) 77 [.ref 0, .int x1] μ (some (.int r)) μ2 := by
  unfold D_X11_text at hD
  refine gs_enter mf_X11_text (Nat.le_of_ble_eq_true rfl) (ls := [.ref 0, .int x1, gs_J, gs_J]) rfl (fun p l e R s m args below meth c ad g tyc hK => ?_)
  have hK : KC p R s m args meth c ad g tyc RX11 cX11_text 4 (some .int) 77 := hK
  refine r_iload_n hK d_X11_text_0 rfl rfl ?_
  refine r_iconst hK d_X11_text_1 ci_0 ?_
  refine r_iconst hK d_X11_text_2 ci_3 ?_
  obtain ⟨v3, u2, e1, hD⟩ := bd_e hD
  refine r_callS (As := [.int x1, .int (0 : Int32), .int (3 : Int32)]) (st := []) (stk2 := [.int v3]) hK (C_X11_within  e1) d_X11_text_3 mf_X11_within ml_RX11_123 ss_X11_within rfl (Nat.le_of_ble_eq_true rfl) (by decide) ⟨Nat.zero_le _, Nat.zero_le _⟩ rfl rfl ?_
  refine r_if_ne (tgt := 11) hK d_X11_text_6 (by decide) (fun h4 => ?_) (fun h4 => ?_)
  · have hD := if_f hD h4
    refine r_iload_n hK d_X11_text_11 rfl rfl ?_
    refine r_iconst hK d_X11_text_12 ci_3 ?_
    refine r_icmp_ne (tgt := 26) hK d_X11_text_13 (by decide) (fun h5 => ?_) (fun h5 => ?_)
    · have hD := if_f hD h5
      refine r_aload_n hK d_X11_text_26 rfl rfl ?_
      refine r_getR hK d_X11_text_27 fl_RX11_21_10 rfl kd_0 ?_
      refine r_ref (b := 3) R0_0_1 ?_
      refine r_iload_n hK d_X11_text_30 rfl rfl ?_
      obtain ⟨v8, u7, e6, hD⟩ := bd_e hD
      refine r_callV (As := [.int x1]) (st := []) (stk2 := [.int v8]) hK (C_X2_readAll  e6) d_X11_text_31 mf_X2_readAll ml_RX11_131 im_X2_readAll rfl se_2_RX2_X2_readAll kd_3 rfl (Nat.le_of_ble_eq_true rfl) (by decide) ⟨Nat.zero_le _, Nat.zero_le _⟩ rfl rfl ?_
      exact T_X11_text_34 hK   hD
    · have hD := if_t hD h5
      refine r_aload_n hK d_X11_text_16 rfl rfl ?_
      refine r_getR hK d_X11_text_17 fl_RX11_28_10 rfl kd_0 ?_
      refine r_ref (b := 5) R0_0_2 ?_
      obtain ⟨v11, u10, e9, hD⟩ := bd_e hD
      refine r_callV (As := []) (st := []) (stk2 := [.int v11]) hK (C_X5_readAll  e9) d_X11_text_20 mf_X5_readAll ml_RX11_127 im_X5_readAll rfl se_4_RX5_X5_readAll kd_5 rfl (Nat.le_of_ble_eq_true rfl) (by decide) ⟨Nat.zero_le _, Nat.zero_le _⟩ rfl rfl ?_
      refine r_goto (tgt := 34) hK d_X11_text_23 (by decide) ?_
      exact T_X11_text_34 hK   hD
  · have hD := if_t hD h4
    refine r_iconst hK d_X11_text_9 ci_m1 ?_
    cases hD
    exact r_iret hK d_X11_text_10
end S_X11_text
theorem d_X11_ship_0 : gd cX11_ship 0 (.aload_n 0) 1 1 := ⟨by decide +kernel, rfl⟩
theorem d_X11_ship_1 : gd cX11_ship 1 (.getfield 41) 3 4 := ⟨by decide +kernel, rfl⟩
theorem d_X11_ship_4 : gd cX11_ship 4 (.iload_n 1) 1 5 := ⟨by decide +kernel, rfl⟩
theorem d_X11_ship_5 : gd cX11_ship 5 (.invokevirtual 143) 3 8 := ⟨by decide +kernel, rfl⟩
theorem d_X11_ship_8 : gd cX11_ship 8 (.ifCond .ne 5) 3 11 := ⟨by decide +kernel, rfl⟩
theorem d_X11_ship_11 : gd cX11_ship 11 (.iconst (-1)) 1 12 := ⟨by decide +kernel, rfl⟩
theorem d_X11_ship_12 : gd cX11_ship 12 .ireturn 1 13 := ⟨by decide +kernel, rfl⟩
theorem d_X11_ship_13 : gd cX11_ship 13 (.iload_n 2) 1 14 := ⟨by decide +kernel, rfl⟩
theorem d_X11_ship_14 : gd cX11_ship 14 (.iconst (-1)) 1 15 := ⟨by decide +kernel, rfl⟩
theorem d_X11_ship_15 : gd cX11_ship 15 (.if_icmp .ne 20) 3 18 := ⟨by decide +kernel, rfl⟩
theorem d_X11_ship_18 : gd cX11_ship 18 (.iload_n 3) 1 19 := ⟨by decide +kernel, rfl⟩
theorem d_X11_ship_19 : gd cX11_ship 19 (.ifCond .ne 14) 3 22 := ⟨by decide +kernel, rfl⟩
theorem d_X11_ship_22 : gd cX11_ship 22 (.aload_n 0) 1 23 := ⟨by decide +kernel, rfl⟩
theorem d_X11_ship_23 : gd cX11_ship 23 (.getfield 41) 3 26 := ⟨by decide +kernel, rfl⟩
theorem d_X11_ship_26 : gd cX11_ship 26 (.iload_n 1) 1 27 := ⟨by decide +kernel, rfl⟩
theorem d_X11_ship_27 : gd cX11_ship 27 (.invokevirtual 154) 3 30 := ⟨by decide +kernel, rfl⟩
theorem d_X11_ship_30 : gd cX11_ship 30 (.goto 4) 3 33 := ⟨by decide +kernel, rfl⟩
theorem d_X11_ship_33 : gd cX11_ship 33 (.iconst (-1)) 1 34 := ⟨by decide +kernel, rfl⟩
theorem d_X11_ship_34 : gd cX11_ship 34 .ireturn 1 35 := ⟨by decide +kernel, rfl⟩
theorem d_X11_ship_35 : gd cX11_ship 35 (.iload_n 3) 1 36 := ⟨by decide +kernel, rfl⟩
theorem d_X11_ship_36 : gd cX11_ship 36 (.iconst 0) 1 37 := ⟨by decide +kernel, rfl⟩
theorem d_X11_ship_37 : gd cX11_ship 37 (.iconst 1) 1 38 := ⟨by decide +kernel, rfl⟩
theorem d_X11_ship_38 : gd cX11_ship 38 (.invokestatic 123) 3 41 := ⟨by decide +kernel, rfl⟩
theorem d_X11_ship_41 : gd cX11_ship 41 (.ifCond .eq 16) 3 44 := ⟨by decide +kernel, rfl⟩
theorem d_X11_ship_44 : gd cX11_ship 44 (.aload_n 0) 1 45 := ⟨by decide +kernel, rfl⟩
theorem d_X11_ship_45 : gd cX11_ship 45 (.getfield 41) 3 48 := ⟨by decide +kernel, rfl⟩
theorem d_X11_ship_48 : gd cX11_ship 48 (.iload_n 1) 1 49 := ⟨by decide +kernel, rfl⟩
theorem d_X11_ship_49 : gd cX11_ship 49 (.iload_n 2) 1 50 := ⟨by decide +kernel, rfl⟩
theorem d_X11_ship_50 : gd cX11_ship 50 (.iload_n 3) 1 51 := ⟨by decide +kernel, rfl⟩
theorem d_X11_ship_51 : gd cX11_ship 51 (.invokevirtual 150) 3 54 := ⟨by decide +kernel, rfl⟩
theorem d_X11_ship_54 : gd cX11_ship 54 (.goto 4) 3 57 := ⟨by decide +kernel, rfl⟩
theorem d_X11_ship_57 : gd cX11_ship 57 (.iconst (-1)) 1 58 := ⟨by decide +kernel, rfl⟩
theorem d_X11_ship_58 : gd cX11_ship 58 .ireturn 1 59 := ⟨by decide +kernel, rfl⟩
def D_X11_ship (x1 : Int32) (x2 : Int32) (x3 : Int32) (μ : gs_M) : Option (Int32 × gs_M) :=
  bd (D_X9_has 10 x1 μ) (fun v3 u2 => if v3 = 0 then (some ((-1 : Int32), u2)) else (if x2 = (-1 : Int32) then (if x3 = 0 then (bd (D_X9_rowsOf 10 x1 u2) (fun v16 u15 => some (v16, u15))) else (some ((-1 : Int32), u2))) else (bd (D_X11_within x3 (0 : Int32) (1 : Int32) u2) (fun v8 u7 => if v8 = 0 then (some ((-1 : Int32), u7)) else (bd (D_X9_number 10 x1 x2 x3 u7) (fun v12 u11 => some (v12, u11)))))))
section S_X11_ship
variable {p : Program} {l : Launch} {e : Env} {R : Room} {s : State} {m : MethodId} {args : Array Value} {below : List Frame} {meth : Method} {c : Code} {ad : Nat → Nat} {g : va_G} {tyc : Nat → ClassId}
set_option maxRecDepth 20000 in
theorem C_X11_ship  {x1 : Int32} {x2 : Int32} {x3 : Int32} {μ : gs_M} {r : Int32} {μ2 : gs_M}  (hD : D_X11_ship x1 x2 x3 μ = some (r, μ2)) : CALL yX11_ship cX11_ship 4 (some .int) 2 [.ref 0, .int x1, .int x2, .int x3] μ (some (.int r)) μ2 := by
  unfold D_X11_ship at hD
  refine gs_enter mf_X11_ship (Nat.le_of_ble_eq_true rfl) (ls := [.ref 0, .int x1, .int x2, .int x3]) rfl (fun p l e R s m args below meth c ad g tyc hK => ?_)
  have hK : KC p R s m args meth c ad g tyc RX11 cX11_ship 4 (some .int) 2 := hK
  refine r_aload_n hK d_X11_ship_0 rfl rfl ?_
  refine r_getR hK d_X11_ship_1 fl_RX11_41_10 rfl kd_0 ?_
  refine r_ref (b := 10) R0_0_4 ?_
  refine r_iload_n hK d_X11_ship_4 rfl rfl ?_
  obtain ⟨v3, u2, e1, hD⟩ := bd_e hD
  refine r_callV (As := [.int x1]) (st := []) (stk2 := [.int v3]) hK (C_X9_has kd_10 e1) d_X11_ship_5 mf_X9_has ml_RX11_143 im_X9_has rfl se_8_RX9_X9_has kd_10 rfl (Nat.le_of_ble_eq_true rfl) (by decide) ⟨Nat.zero_le _, Nat.zero_le _⟩ rfl rfl ?_
  refine r_if_ne (tgt := 13) hK d_X11_ship_8 (by decide) (fun h4 => ?_) (fun h4 => ?_)
  · have hD := if_f hD h4
    refine r_iload_n hK d_X11_ship_13 rfl rfl ?_
    refine r_iconst hK d_X11_ship_14 ci_m1 ?_
    refine r_icmp_ne (tgt := 35) hK d_X11_ship_15 (by decide) (fun h5 => ?_) (fun h5 => ?_)
    · have hD := if_f hD h5
      refine r_iload_n hK d_X11_ship_35 rfl rfl ?_
      refine r_iconst hK d_X11_ship_36 ci_0 ?_
      refine r_iconst hK d_X11_ship_37 ci_1 ?_
      obtain ⟨v8, u7, e6, hD⟩ := bd_e hD
      refine r_callS (As := [.int x3, .int (0 : Int32), .int (1 : Int32)]) (st := []) (stk2 := [.int v8]) hK (C_X11_within  e6) d_X11_ship_38 mf_X11_within ml_RX11_123 ss_X11_within rfl (Nat.le_of_ble_eq_true rfl) (by decide) ⟨Nat.zero_le _, Nat.zero_le _⟩ rfl rfl ?_
      refine r_if_eq (tgt := 57) hK d_X11_ship_41 (by decide) (fun h9 => ?_) (fun h9 => ?_)
      · have hD := if_t hD h9
        refine r_iconst hK d_X11_ship_57 ci_m1 ?_
        cases hD
        exact r_iret hK d_X11_ship_58
      · have hD := if_f hD h9
        refine r_aload_n hK d_X11_ship_44 rfl rfl ?_
        refine r_getR hK d_X11_ship_45 fl_RX11_41_10 rfl kd_0 ?_
        refine r_ref (b := 10) R0_0_4 ?_
        refine r_iload_n hK d_X11_ship_48 rfl rfl ?_
        refine r_iload_n hK d_X11_ship_49 rfl rfl ?_
        refine r_iload_n hK d_X11_ship_50 rfl rfl ?_
        obtain ⟨v12, u11, e10, hD⟩ := bd_e hD
        refine r_callV (As := [.int x1, .int x2, .int x3]) (st := []) (stk2 := [.int v12]) hK (C_X9_number kd_10 e10) d_X11_ship_51 mf_X9_number ml_RX11_150 im_X9_number rfl se_8_RX9_X9_number kd_10 rfl (Nat.le_of_ble_eq_true rfl) (by decide) ⟨Nat.zero_le _, Nat.zero_le _⟩ rfl rfl ?_
        refine r_goto (tgt := 58) hK d_X11_ship_54 (by decide) ?_
        cases hD
        exact r_iret hK d_X11_ship_58
    · have hD := if_t hD h5
      refine r_iload_n hK d_X11_ship_18 rfl rfl ?_
      refine r_if_ne (tgt := 33) hK d_X11_ship_19 (by decide) (fun h13 => ?_) (fun h13 => ?_)
      · have hD := if_f hD h13
        refine r_iconst hK d_X11_ship_33 ci_m1 ?_
        cases hD
        exact r_iret hK d_X11_ship_34
      · have hD := if_t hD h13
        refine r_aload_n hK d_X11_ship_22 rfl rfl ?_
        refine r_getR hK d_X11_ship_23 fl_RX11_41_10 rfl kd_0 ?_
        refine r_ref (b := 10) R0_0_4 ?_
        refine r_iload_n hK d_X11_ship_26 rfl rfl ?_
        obtain ⟨v16, u15, e14, hD⟩ := bd_e hD
        refine r_callV (As := [.int x1]) (st := []) (stk2 := [.int v16]) hK (C_X9_rowsOf kd_10 e14) d_X11_ship_27 mf_X9_rowsOf ml_RX11_154 im_X9_rowsOf rfl se_8_RX9_X9_rowsOf kd_10 rfl (Nat.le_of_ble_eq_true rfl) (by decide) ⟨Nat.zero_le _, Nat.zero_le _⟩ rfl rfl ?_
        refine r_goto (tgt := 34) hK d_X11_ship_30 (by decide) ?_
        cases hD
        exact r_iret hK d_X11_ship_34
  · have hD := if_t hD h4
    refine r_iconst hK d_X11_ship_11 ci_m1 ?_
    cases hD
    exact r_iret hK d_X11_ship_12
end S_X11_ship
theorem d_X11_plan_0 : gd cX11_plan 0 (.aload_n 0) 1 1 := ⟨by decide +kernel, rfl⟩
theorem d_X11_plan_1 : gd cX11_plan 1 (.getfield 44) 3 4 := ⟨by decide +kernel, rfl⟩
theorem d_X11_plan_4 : gd cX11_plan 4 (.iload_n 1) 1 5 := ⟨by decide +kernel, rfl⟩
theorem d_X11_plan_5 : gd cX11_plan 5 (.invokevirtual 143) 3 8 := ⟨by decide +kernel, rfl⟩
theorem d_X11_plan_8 : gd cX11_plan 8 (.ifCond .ne 5) 3 11 := ⟨by decide +kernel, rfl⟩
theorem d_X11_plan_11 : gd cX11_plan 11 (.iconst (-1)) 1 12 := ⟨by decide +kernel, rfl⟩
theorem d_X11_plan_12 : gd cX11_plan 12 .ireturn 1 13 := ⟨by decide +kernel, rfl⟩
theorem d_X11_plan_13 : gd cX11_plan 13 (.iload_n 2) 1 14 := ⟨by decide +kernel, rfl⟩
theorem d_X11_plan_14 : gd cX11_plan 14 (.iconst (-1)) 1 15 := ⟨by decide +kernel, rfl⟩
theorem d_X11_plan_15 : gd cX11_plan 15 (.if_icmp .ne 20) 3 18 := ⟨by decide +kernel, rfl⟩
theorem d_X11_plan_18 : gd cX11_plan 18 (.iload_n 3) 1 19 := ⟨by decide +kernel, rfl⟩
theorem d_X11_plan_19 : gd cX11_plan 19 (.ifCond .ne 14) 3 22 := ⟨by decide +kernel, rfl⟩
theorem d_X11_plan_22 : gd cX11_plan 22 (.aload_n 0) 1 23 := ⟨by decide +kernel, rfl⟩
theorem d_X11_plan_23 : gd cX11_plan 23 (.getfield 44) 3 26 := ⟨by decide +kernel, rfl⟩
theorem d_X11_plan_26 : gd cX11_plan 26 (.iload_n 1) 1 27 := ⟨by decide +kernel, rfl⟩
theorem d_X11_plan_27 : gd cX11_plan 27 (.invokevirtual 154) 3 30 := ⟨by decide +kernel, rfl⟩
theorem d_X11_plan_30 : gd cX11_plan 30 (.goto 4) 3 33 := ⟨by decide +kernel, rfl⟩
theorem d_X11_plan_33 : gd cX11_plan 33 (.iconst (-1)) 1 34 := ⟨by decide +kernel, rfl⟩
theorem d_X11_plan_34 : gd cX11_plan 34 .ireturn 1 35 := ⟨by decide +kernel, rfl⟩
theorem d_X11_plan_35 : gd cX11_plan 35 (.iload_n 3) 1 36 := ⟨by decide +kernel, rfl⟩
theorem d_X11_plan_36 : gd cX11_plan 36 (.iconst 0) 1 37 := ⟨by decide +kernel, rfl⟩
theorem d_X11_plan_37 : gd cX11_plan 37 (.iconst 4) 1 38 := ⟨by decide +kernel, rfl⟩
theorem d_X11_plan_38 : gd cX11_plan 38 (.invokestatic 123) 3 41 := ⟨by decide +kernel, rfl⟩
theorem d_X11_plan_41 : gd cX11_plan 41 (.ifCond .eq 16) 3 44 := ⟨by decide +kernel, rfl⟩
theorem d_X11_plan_44 : gd cX11_plan 44 (.aload_n 0) 1 45 := ⟨by decide +kernel, rfl⟩
theorem d_X11_plan_45 : gd cX11_plan 45 (.getfield 44) 3 48 := ⟨by decide +kernel, rfl⟩
theorem d_X11_plan_48 : gd cX11_plan 48 (.iload_n 1) 1 49 := ⟨by decide +kernel, rfl⟩
theorem d_X11_plan_49 : gd cX11_plan 49 (.iload_n 2) 1 50 := ⟨by decide +kernel, rfl⟩
theorem d_X11_plan_50 : gd cX11_plan 50 (.iload_n 3) 1 51 := ⟨by decide +kernel, rfl⟩
theorem d_X11_plan_51 : gd cX11_plan 51 (.invokevirtual 150) 3 54 := ⟨by decide +kernel, rfl⟩
theorem d_X11_plan_54 : gd cX11_plan 54 (.goto 4) 3 57 := ⟨by decide +kernel, rfl⟩
theorem d_X11_plan_57 : gd cX11_plan 57 (.iconst (-1)) 1 58 := ⟨by decide +kernel, rfl⟩
theorem d_X11_plan_58 : gd cX11_plan 58 .ireturn 1 59 := ⟨by decide +kernel, rfl⟩
def D_X11_plan (x1 : Int32) (x2 : Int32) (x3 : Int32) (μ : gs_M) : Option (Int32 × gs_M) :=
  bd (D_X9_has 13 x1 μ) (fun v3 u2 => if v3 = 0 then (some ((-1 : Int32), u2)) else (if x2 = (-1 : Int32) then (if x3 = 0 then (bd (D_X9_rowsOf 13 x1 u2) (fun v16 u15 => some (v16, u15))) else (some ((-1 : Int32), u2))) else (bd (D_X11_within x3 (0 : Int32) (4 : Int32) u2) (fun v8 u7 => if v8 = 0 then (some ((-1 : Int32), u7)) else (bd (D_X9_number 13 x1 x2 x3 u7) (fun v12 u11 => some (v12, u11)))))))
section S_X11_plan
variable {p : Program} {l : Launch} {e : Env} {R : Room} {s : State} {m : MethodId} {args : Array Value} {below : List Frame} {meth : Method} {c : Code} {ad : Nat → Nat} {g : va_G} {tyc : Nat → ClassId}
set_option maxRecDepth 20000 in
theorem C_X11_plan  {x1 : Int32} {x2 : Int32} {x3 : Int32} {μ : gs_M} {r : Int32} {μ2 : gs_M}  (hD : D_X11_plan x1 x2 x3 μ = some (r, μ2)) : CALL yX11_plan cX11_plan 4 (some .int) 2 [.ref 0, .int x1, .int x2, .int x3] μ (some (.int r)) μ2 := by
  unfold D_X11_plan at hD
  refine gs_enter mf_X11_plan (Nat.le_of_ble_eq_true rfl) (ls := [.ref 0, .int x1, .int x2, .int x3]) rfl (fun p l e R s m args below meth c ad g tyc hK => ?_)
  have hK : KC p R s m args meth c ad g tyc RX11 cX11_plan 4 (some .int) 2 := hK
  refine r_aload_n hK d_X11_plan_0 rfl rfl ?_
  refine r_getR hK d_X11_plan_1 fl_RX11_44_10 rfl kd_0 ?_
  refine r_ref (b := 13) R0_0_5 ?_
  refine r_iload_n hK d_X11_plan_4 rfl rfl ?_
  obtain ⟨v3, u2, e1, hD⟩ := bd_e hD
  refine r_callV (As := [.int x1]) (st := []) (stk2 := [.int v3]) hK (C_X9_has kd_13 e1) d_X11_plan_5 mf_X9_has ml_RX11_143 im_X9_has rfl se_8_RX9_X9_has kd_13 rfl (Nat.le_of_ble_eq_true rfl) (by decide) ⟨Nat.zero_le _, Nat.zero_le _⟩ rfl rfl ?_
  refine r_if_ne (tgt := 13) hK d_X11_plan_8 (by decide) (fun h4 => ?_) (fun h4 => ?_)
  · have hD := if_f hD h4
    refine r_iload_n hK d_X11_plan_13 rfl rfl ?_
    refine r_iconst hK d_X11_plan_14 ci_m1 ?_
    refine r_icmp_ne (tgt := 35) hK d_X11_plan_15 (by decide) (fun h5 => ?_) (fun h5 => ?_)
    · have hD := if_f hD h5
      refine r_iload_n hK d_X11_plan_35 rfl rfl ?_
      refine r_iconst hK d_X11_plan_36 ci_0 ?_
      refine r_iconst hK d_X11_plan_37 ci_4 ?_
      obtain ⟨v8, u7, e6, hD⟩ := bd_e hD
      refine r_callS (As := [.int x3, .int (0 : Int32), .int (4 : Int32)]) (st := []) (stk2 := [.int v8]) hK (C_X11_within  e6) d_X11_plan_38 mf_X11_within ml_RX11_123 ss_X11_within rfl (Nat.le_of_ble_eq_true rfl) (by decide) ⟨Nat.zero_le _, Nat.zero_le _⟩ rfl rfl ?_
      refine r_if_eq (tgt := 57) hK d_X11_plan_41 (by decide) (fun h9 => ?_) (fun h9 => ?_)
      · have hD := if_t hD h9
        refine r_iconst hK d_X11_plan_57 ci_m1 ?_
        cases hD
        exact r_iret hK d_X11_plan_58
      · have hD := if_f hD h9
        refine r_aload_n hK d_X11_plan_44 rfl rfl ?_
        refine r_getR hK d_X11_plan_45 fl_RX11_44_10 rfl kd_0 ?_
        refine r_ref (b := 13) R0_0_5 ?_
        refine r_iload_n hK d_X11_plan_48 rfl rfl ?_
        refine r_iload_n hK d_X11_plan_49 rfl rfl ?_
        refine r_iload_n hK d_X11_plan_50 rfl rfl ?_
        obtain ⟨v12, u11, e10, hD⟩ := bd_e hD
        refine r_callV (As := [.int x1, .int x2, .int x3]) (st := []) (stk2 := [.int v12]) hK (C_X9_number kd_13 e10) d_X11_plan_51 mf_X9_number ml_RX11_150 im_X9_number rfl se_8_RX9_X9_number kd_13 rfl (Nat.le_of_ble_eq_true rfl) (by decide) ⟨Nat.zero_le _, Nat.zero_le _⟩ rfl rfl ?_
        refine r_goto (tgt := 58) hK d_X11_plan_54 (by decide) ?_
        cases hD
        exact r_iret hK d_X11_plan_58
    · have hD := if_t hD h5
      refine r_iload_n hK d_X11_plan_18 rfl rfl ?_
      refine r_if_ne (tgt := 33) hK d_X11_plan_19 (by decide) (fun h13 => ?_) (fun h13 => ?_)
      · have hD := if_f hD h13
        refine r_iconst hK d_X11_plan_33 ci_m1 ?_
        cases hD
        exact r_iret hK d_X11_plan_34
      · have hD := if_t hD h13
        refine r_aload_n hK d_X11_plan_22 rfl rfl ?_
        refine r_getR hK d_X11_plan_23 fl_RX11_44_10 rfl kd_0 ?_
        refine r_ref (b := 13) R0_0_5 ?_
        refine r_iload_n hK d_X11_plan_26 rfl rfl ?_
        obtain ⟨v16, u15, e14, hD⟩ := bd_e hD
        refine r_callV (As := [.int x1]) (st := []) (stk2 := [.int v16]) hK (C_X9_rowsOf kd_13 e14) d_X11_plan_27 mf_X9_rowsOf ml_RX11_154 im_X9_rowsOf rfl se_8_RX9_X9_rowsOf kd_13 rfl (Nat.le_of_ble_eq_true rfl) (by decide) ⟨Nat.zero_le _, Nat.zero_le _⟩ rfl rfl ?_
        refine r_goto (tgt := 34) hK d_X11_plan_30 (by decide) ?_
        cases hD
        exact r_iret hK d_X11_plan_34
  · have hD := if_t hD h4
    refine r_iconst hK d_X11_plan_11 ci_m1 ?_
    cases hD
    exact r_iret hK d_X11_plan_12
end S_X11_plan
theorem d_X11_set_0 : gd cX11_set 0 (.iload_n 1) 1 1 := ⟨by decide +kernel, rfl⟩
theorem d_X11_set_1 : gd cX11_set 1 (.ifCond .ne 24) 3 4 := ⟨by decide +kernel, rfl⟩
theorem d_X11_set_4 : gd cX11_set 4 (.iload_n 2) 1 5 := ⟨by decide +kernel, rfl⟩
theorem d_X11_set_5 : gd cX11_set 5 (.iconst 1) 1 6 := ⟨by decide +kernel, rfl⟩
theorem d_X11_set_6 : gd cX11_set 6 (.sipush 9999) 3 9 := ⟨by decide +kernel, rfl⟩
theorem d_X11_set_9 : gd cX11_set 9 (.invokestatic 123) 3 12 := ⟨by decide +kernel, rfl⟩
theorem d_X11_set_12 : gd cX11_set 12 (.ifCond .eq 13) 3 15 := ⟨by decide +kernel, rfl⟩
theorem d_X11_set_15 : gd cX11_set 15 (.aload_n 0) 1 16 := ⟨by decide +kernel, rfl⟩
theorem d_X11_set_16 : gd cX11_set 16 (.getfield 57) 3 19 := ⟨by decide +kernel, rfl⟩
theorem d_X11_set_19 : gd cX11_set 19 (.iload_n 2) 1 20 := ⟨by decide +kernel, rfl⟩
theorem d_X11_set_20 : gd cX11_set 20 (.putfield 157) 3 23 := ⟨by decide +kernel, rfl⟩
theorem d_X11_set_23 : gd cX11_set 23 (.iconst 1) 1 24 := ⟨by decide +kernel, rfl⟩
theorem d_X11_set_24 : gd cX11_set 24 .ireturn 1 25 := ⟨by decide +kernel, rfl⟩
theorem d_X11_set_25 : gd cX11_set 25 (.iload_n 1) 1 26 := ⟨by decide +kernel, rfl⟩
theorem d_X11_set_26 : gd cX11_set 26 (.iconst 1) 1 27 := ⟨by decide +kernel, rfl⟩
theorem d_X11_set_27 : gd cX11_set 27 (.if_icmp .ne 26) 3 30 := ⟨by decide +kernel, rfl⟩
theorem d_X11_set_30 : gd cX11_set 30 (.iload_n 2) 1 31 := ⟨by decide +kernel, rfl⟩
theorem d_X11_set_31 : gd cX11_set 31 (.sipush (-999)) 3 34 := ⟨by decide +kernel, rfl⟩
theorem d_X11_set_34 : gd cX11_set 34 (.sipush 999) 3 37 := ⟨by decide +kernel, rfl⟩
theorem d_X11_set_37 : gd cX11_set 37 (.invokestatic 123) 3 40 := ⟨by decide +kernel, rfl⟩
theorem d_X11_set_40 : gd cX11_set 40 (.ifCond .eq 13) 3 43 := ⟨by decide +kernel, rfl⟩
theorem d_X11_set_43 : gd cX11_set 43 (.aload_n 0) 1 44 := ⟨by decide +kernel, rfl⟩
theorem d_X11_set_44 : gd cX11_set 44 (.getfield 57) 3 47 := ⟨by decide +kernel, rfl⟩
theorem d_X11_set_47 : gd cX11_set 47 (.iload_n 2) 1 48 := ⟨by decide +kernel, rfl⟩
theorem d_X11_set_48 : gd cX11_set 48 (.putfield 160) 3 51 := ⟨by decide +kernel, rfl⟩
theorem d_X11_set_51 : gd cX11_set 51 (.iconst 1) 1 52 := ⟨by decide +kernel, rfl⟩
theorem d_X11_set_52 : gd cX11_set 52 .ireturn 1 53 := ⟨by decide +kernel, rfl⟩
theorem d_X11_set_53 : gd cX11_set 53 (.iload_n 1) 1 54 := ⟨by decide +kernel, rfl⟩
theorem d_X11_set_54 : gd cX11_set 54 (.iconst 2) 1 55 := ⟨by decide +kernel, rfl⟩
theorem d_X11_set_55 : gd cX11_set 55 (.if_icmp .ne 23) 3 58 := ⟨by decide +kernel, rfl⟩
theorem d_X11_set_58 : gd cX11_set 58 (.iload_n 2) 1 59 := ⟨by decide +kernel, rfl⟩
theorem d_X11_set_59 : gd cX11_set 59 (.iconst 1) 1 60 := ⟨by decide +kernel, rfl⟩
theorem d_X11_set_60 : gd cX11_set 60 (.bipush 60) 2 62 := ⟨by decide +kernel, rfl⟩
theorem d_X11_set_62 : gd cX11_set 62 (.invokestatic 123) 3 65 := ⟨by decide +kernel, rfl⟩
theorem d_X11_set_65 : gd cX11_set 65 (.ifCond .eq 13) 3 68 := ⟨by decide +kernel, rfl⟩
theorem d_X11_set_68 : gd cX11_set 68 (.aload_n 0) 1 69 := ⟨by decide +kernel, rfl⟩
theorem d_X11_set_69 : gd cX11_set 69 (.getfield 57) 3 72 := ⟨by decide +kernel, rfl⟩
theorem d_X11_set_72 : gd cX11_set 72 (.iload_n 2) 1 73 := ⟨by decide +kernel, rfl⟩
theorem d_X11_set_73 : gd cX11_set 73 (.putfield 163) 3 76 := ⟨by decide +kernel, rfl⟩
theorem d_X11_set_76 : gd cX11_set 76 (.iconst 1) 1 77 := ⟨by decide +kernel, rfl⟩
theorem d_X11_set_77 : gd cX11_set 77 .ireturn 1 78 := ⟨by decide +kernel, rfl⟩
theorem d_X11_set_78 : gd cX11_set 78 (.iconst 0) 1 79 := ⟨by decide +kernel, rfl⟩
theorem d_X11_set_79 : gd cX11_set 79 .ireturn 1 80 := ⟨by decide +kernel, rfl⟩
def B_X11_set_53  (x1 : Int32) (x2 : Int32) (μ : gs_M) : Option (Int32 × gs_M) :=
  if x1 = (2 : Int32) then (bd (D_X11_within x2 (1 : Int32) (60 : Int32) μ) (fun v4 u3 => if v4 = 0 then (some ((0 : Int32), u3)) else (lt1 (sI u3 25 2 x2) (fun u6 => some ((1 : Int32), u6))))) else (some ((0 : Int32), μ))
def B_X11_set_25  (x1 : Int32) (x2 : Int32) (μ : gs_M) : Option (Int32 × gs_M) :=
  if x1 = (1 : Int32) then (bd (D_X11_within x2 (-999 : Int32) (999 : Int32) μ) (fun v4 u3 => if v4 = 0 then (B_X11_set_53 x1 x2 u3) else (lt1 (sI u3 25 1 x2) (fun u6 => some ((1 : Int32), u6))))) else (B_X11_set_53 x1 x2 μ)
def D_X11_set (x1 : Int32) (x2 : Int32) (μ : gs_M) : Option (Int32 × gs_M) :=
  if x1 = 0 then (bd (D_X11_within x2 (1 : Int32) (9999 : Int32) μ) (fun v4 u3 => if v4 = 0 then (B_X11_set_25 x1 x2 u3) else (lt1 (sI u3 25 0 x2) (fun u6 => some ((1 : Int32), u6))))) else (B_X11_set_25 x1 x2 μ)
section S_X11_set
variable {p : Program} {l : Launch} {e : Env} {R : Room} {s : State} {m : MethodId} {args : Array Value} {below : List Frame} {meth : Method} {c : Code} {ad : Nat → Nat} {g : va_G} {tyc : Nat → ClassId}
set_option maxRecDepth 20000 in
theorem T_X11_set_53  (hK : KC p R s m args meth c ad g tyc RX11 cX11_set 3 (some .boolean) 1) {r : Int32} {μ2 : gs_M}   {x1 : Int32} {x2 : Int32} {μ : gs_M}  (hD : B_X11_set_53  x1 x2 μ = some (r, μ2)) : WJ p l e R s m args below meth c 0 0 (MQ below (gs_Q ad g tyc (some (.int r)) μ2) args s 0 0 (gs_A ad)) ad g tyc 3 53 [.ref 0, .int x1, .int x2] [] μ := by
  unfold B_X11_set_53 at hD
  refine r_iload_n hK d_X11_set_53 rfl rfl ?_
  refine r_iconst hK d_X11_set_54 ci_2 ?_
  refine r_icmp_ne (tgt := 78) hK d_X11_set_55 (by decide) (fun h1 => ?_) (fun h1 => ?_)
  · have hD := if_f hD h1
    refine r_iconst hK d_X11_set_78 ci_0 ?_
    cases hD
    exact r_zret hK (Or.inl rfl) d_X11_set_79
  · have hD := if_t hD h1
    refine r_iload_n hK d_X11_set_58 rfl rfl ?_
    refine r_iconst hK d_X11_set_59 ci_1 ?_
    refine r_bipush hK d_X11_set_60 cb_60 ?_
    obtain ⟨v4, u3, e2, hD⟩ := bd_e hD
    refine r_callS (As := [.int x2, .int (1 : Int32), .int (60 : Int32)]) (st := []) (stk2 := [.int v4]) hK (C_X11_within  e2) d_X11_set_62 mf_X11_within ml_RX11_123 ss_X11_within rfl (Nat.le_of_ble_eq_true rfl) (by decide) ⟨Nat.zero_le _, Nat.zero_le _⟩ rfl rfl ?_
    refine r_if_eq (tgt := 78) hK d_X11_set_65 (by decide) (fun h5 => ?_) (fun h5 => ?_)
    · have hD := if_t hD h5
      refine r_iconst hK d_X11_set_78 ci_0 ?_
      cases hD
      exact r_zret hK (Or.inl rfl) d_X11_set_79
    · have hD := if_f hD h5
      refine r_aload_n hK d_X11_set_68 rfl rfl ?_
      refine r_getR hK d_X11_set_69 fl_RX11_57_10 rfl kd_0 ?_
      refine r_ref (b := 25) R0_0_7 ?_
      refine r_iload_n hK d_X11_set_72 rfl rfl ?_
      refine r_putI hK d_X11_set_73 fl_RX11_163_6 rfl rfl kd_25 ?_
      refine r_ltm hD (fun u6 hD => ?_)
      refine r_iconst hK d_X11_set_76 ci_1 ?_
      cases hD
      exact r_zret hK (Or.inr rfl) d_X11_set_77
set_option maxRecDepth 20000 in
theorem T_X11_set_25  (hK : KC p R s m args meth c ad g tyc RX11 cX11_set 3 (some .boolean) 1) {r : Int32} {μ2 : gs_M}   {x1 : Int32} {x2 : Int32} {μ : gs_M}  (hD : B_X11_set_25  x1 x2 μ = some (r, μ2)) : WJ p l e R s m args below meth c 0 0 (MQ below (gs_Q ad g tyc (some (.int r)) μ2) args s 0 0 (gs_A ad)) ad g tyc 3 25 [.ref 0, .int x1, .int x2] [] μ := by
  unfold B_X11_set_25 at hD
  refine r_iload_n hK d_X11_set_25 rfl rfl ?_
  refine r_iconst hK d_X11_set_26 ci_1 ?_
  refine r_icmp_ne (tgt := 53) hK d_X11_set_27 (by decide) (fun h1 => ?_) (fun h1 => ?_)
  · have hD := if_f hD h1
    exact T_X11_set_53 hK   hD
  · have hD := if_t hD h1
    refine r_iload_n hK d_X11_set_30 rfl rfl ?_
    refine r_sipush hK d_X11_set_31 cs_m999 ?_
    refine r_sipush hK d_X11_set_34 cs_999 ?_
    obtain ⟨v4, u3, e2, hD⟩ := bd_e hD
    refine r_callS (As := [.int x2, .int (-999 : Int32), .int (999 : Int32)]) (st := []) (stk2 := [.int v4]) hK (C_X11_within  e2) d_X11_set_37 mf_X11_within ml_RX11_123 ss_X11_within rfl (Nat.le_of_ble_eq_true rfl) (by decide) ⟨Nat.zero_le _, Nat.zero_le _⟩ rfl rfl ?_
    refine r_if_eq (tgt := 53) hK d_X11_set_40 (by decide) (fun h5 => ?_) (fun h5 => ?_)
    · have hD := if_t hD h5
      exact T_X11_set_53 hK   hD
    · have hD := if_f hD h5
      refine r_aload_n hK d_X11_set_43 rfl rfl ?_
      refine r_getR hK d_X11_set_44 fl_RX11_57_10 rfl kd_0 ?_
      refine r_ref (b := 25) R0_0_7 ?_
      refine r_iload_n hK d_X11_set_47 rfl rfl ?_
      refine r_putI hK d_X11_set_48 fl_RX11_160_6 rfl rfl kd_25 ?_
      refine r_ltm hD (fun u6 hD => ?_)
      refine r_iconst hK d_X11_set_51 ci_1 ?_
      cases hD
      exact r_zret hK (Or.inr rfl) d_X11_set_52
set_option maxRecDepth 20000 in
theorem C_X11_set  {x1 : Int32} {x2 : Int32} {μ : gs_M} {r : Int32} {μ2 : gs_M}  (hD : D_X11_set x1 x2 μ = some (r, μ2)) : CALL yX11_set cX11_set 3 (some .boolean) 1 [.ref 0, .int x1, .int x2] μ (some (.int r)) μ2 := by
  unfold D_X11_set at hD
  refine gs_enter mf_X11_set (Nat.le_of_ble_eq_true rfl) (ls := [.ref 0, .int x1, .int x2]) rfl (fun p l e R s m args below meth c ad g tyc hK => ?_)
  have hK : KC p R s m args meth c ad g tyc RX11 cX11_set 3 (some .boolean) 1 := hK
  refine r_iload_n hK d_X11_set_0 rfl rfl ?_
  refine r_if_ne (tgt := 25) hK d_X11_set_1 (by decide) (fun h1 => ?_) (fun h1 => ?_)
  · have hD := if_f hD h1
    exact T_X11_set_25 hK   hD
  · have hD := if_t hD h1
    refine r_iload_n hK d_X11_set_4 rfl rfl ?_
    refine r_iconst hK d_X11_set_5 ci_1 ?_
    refine r_sipush hK d_X11_set_6 cs_9999 ?_
    obtain ⟨v4, u3, e2, hD⟩ := bd_e hD
    refine r_callS (As := [.int x2, .int (1 : Int32), .int (9999 : Int32)]) (st := []) (stk2 := [.int v4]) hK (C_X11_within  e2) d_X11_set_9 mf_X11_within ml_RX11_123 ss_X11_within rfl (Nat.le_of_ble_eq_true rfl) (by decide) ⟨Nat.zero_le _, Nat.zero_le _⟩ rfl rfl ?_
    refine r_if_eq (tgt := 25) hK d_X11_set_12 (by decide) (fun h5 => ?_) (fun h5 => ?_)
    · have hD := if_t hD h5
      exact T_X11_set_25 hK   hD
    · have hD := if_f hD h5
      refine r_aload_n hK d_X11_set_15 rfl rfl ?_
      refine r_getR hK d_X11_set_16 fl_RX11_57_10 rfl kd_0 ?_
      refine r_ref (b := 25) R0_0_7 ?_
      refine r_iload_n hK d_X11_set_19 rfl rfl ?_
      refine r_putI hK d_X11_set_20 fl_RX11_157_6 rfl rfl kd_25 ?_
      refine r_ltm hD (fun u6 hD => ?_)
      refine r_iconst hK d_X11_set_23 ci_1 ?_
      cases hD
      exact r_zret hK (Or.inr rfl) d_X11_set_24
end S_X11_set
theorem d_X11_canLoad_0 : gd cX11_canLoad 0 (.aload_n 0) 1 1 := ⟨by decide +kernel, rfl⟩
theorem d_X11_canLoad_1 : gd cX11_canLoad 1 (.getfield 41) 3 4 := ⟨by decide +kernel, rfl⟩
theorem d_X11_canLoad_4 : gd cX11_canLoad 4 (.iload_n 1) 1 5 := ⟨by decide +kernel, rfl⟩
theorem d_X11_canLoad_5 : gd cX11_canLoad 5 (.invokevirtual 143) 3 8 := ⟨by decide +kernel, rfl⟩
theorem d_X11_canLoad_8 : gd cX11_canLoad 8 (.ifCond .eq 33) 3 11 := ⟨by decide +kernel, rfl⟩
theorem d_X11_canLoad_11 : gd cX11_canLoad 11 (.aload_n 0) 1 12 := ⟨by decide +kernel, rfl⟩
theorem d_X11_canLoad_12 : gd cX11_canLoad 12 (.getfield 44) 3 15 := ⟨by decide +kernel, rfl⟩
theorem d_X11_canLoad_15 : gd cX11_canLoad 15 (.iload_n 2) 1 16 := ⟨by decide +kernel, rfl⟩
theorem d_X11_canLoad_16 : gd cX11_canLoad 16 (.invokevirtual 143) 3 19 := ⟨by decide +kernel, rfl⟩
theorem d_X11_canLoad_19 : gd cX11_canLoad 19 (.ifCond .eq 22) 3 22 := ⟨by decide +kernel, rfl⟩
theorem d_X11_canLoad_22 : gd cX11_canLoad 22 (.aload_n 0) 1 23 := ⟨by decide +kernel, rfl⟩
theorem d_X11_canLoad_23 : gd cX11_canLoad 23 (.getfield 41) 3 26 := ⟨by decide +kernel, rfl⟩
theorem d_X11_canLoad_26 : gd cX11_canLoad 26 (.iload_n 1) 1 27 := ⟨by decide +kernel, rfl⟩
theorem d_X11_canLoad_27 : gd cX11_canLoad 27 (.invokevirtual 154) 3 30 := ⟨by decide +kernel, rfl⟩
theorem d_X11_canLoad_30 : gd cX11_canLoad 30 (.aload_n 0) 1 31 := ⟨by decide +kernel, rfl⟩
theorem d_X11_canLoad_31 : gd cX11_canLoad 31 (.getfield 44) 3 34 := ⟨by decide +kernel, rfl⟩
theorem d_X11_canLoad_34 : gd cX11_canLoad 34 (.iload_n 2) 1 35 := ⟨by decide +kernel, rfl⟩
theorem d_X11_canLoad_35 : gd cX11_canLoad 35 (.invokevirtual 154) 3 38 := ⟨by decide +kernel, rfl⟩
theorem d_X11_canLoad_38 : gd cX11_canLoad 38 (.if_icmp .eq 5) 3 41 := ⟨by decide +kernel, rfl⟩
theorem d_X11_canLoad_41 : gd cX11_canLoad 41 (.iconst 0) 1 42 := ⟨by decide +kernel, rfl⟩
theorem d_X11_canLoad_42 : gd cX11_canLoad 42 .ireturn 1 43 := ⟨by decide +kernel, rfl⟩
theorem d_X11_canLoad_43 : gd cX11_canLoad 43 (.iconst 0) 1 44 := ⟨by decide +kernel, rfl⟩
theorem d_X11_canLoad_44 : gd cX11_canLoad 44 (.istore_n 3) 1 45 := ⟨by decide +kernel, rfl⟩
theorem d_X11_canLoad_45 : gd cX11_canLoad 45 (.iload_n 3) 1 46 := ⟨by decide +kernel, rfl⟩
theorem d_X11_canLoad_46 : gd cX11_canLoad 46 (.aload_n 0) 1 47 := ⟨by decide +kernel, rfl⟩
theorem d_X11_canLoad_47 : gd cX11_canLoad 47 (.getfield 41) 3 50 := ⟨by decide +kernel, rfl⟩
theorem d_X11_canLoad_50 : gd cX11_canLoad 50 (.iload_n 1) 1 51 := ⟨by decide +kernel, rfl⟩
theorem d_X11_canLoad_51 : gd cX11_canLoad 51 (.invokevirtual 154) 3 54 := ⟨by decide +kernel, rfl⟩
theorem d_X11_canLoad_54 : gd cX11_canLoad 54 (.if_icmp .ge 69) 3 57 := ⟨by decide +kernel, rfl⟩
theorem d_X11_canLoad_57 : gd cX11_canLoad 57 (.aload_n 0) 1 58 := ⟨by decide +kernel, rfl⟩
theorem d_X11_canLoad_58 : gd cX11_canLoad 58 (.getfield 41) 3 61 := ⟨by decide +kernel, rfl⟩
theorem d_X11_canLoad_61 : gd cX11_canLoad 61 (.iload_n 1) 1 62 := ⟨by decide +kernel, rfl⟩
theorem d_X11_canLoad_62 : gd cX11_canLoad 62 (.iload_n 3) 1 63 := ⟨by decide +kernel, rfl⟩
theorem d_X11_canLoad_63 : gd cX11_canLoad 63 (.iconst 0) 1 64 := ⟨by decide +kernel, rfl⟩
theorem d_X11_canLoad_64 : gd cX11_canLoad 64 (.invokevirtual 150) 3 67 := ⟨by decide +kernel, rfl⟩
theorem d_X11_canLoad_67 : gd cX11_canLoad 67 (.aload_n 0) 1 68 := ⟨by decide +kernel, rfl⟩
theorem d_X11_canLoad_68 : gd cX11_canLoad 68 (.getfield 41) 3 71 := ⟨by decide +kernel, rfl⟩
theorem d_X11_canLoad_71 : gd cX11_canLoad 71 (.iload_n 1) 1 72 := ⟨by decide +kernel, rfl⟩
theorem d_X11_canLoad_72 : gd cX11_canLoad 72 (.iload_n 3) 1 73 := ⟨by decide +kernel, rfl⟩
theorem d_X11_canLoad_73 : gd cX11_canLoad 73 (.iconst 1) 1 74 := ⟨by decide +kernel, rfl⟩
theorem d_X11_canLoad_74 : gd cX11_canLoad 74 (.invokevirtual 150) 3 77 := ⟨by decide +kernel, rfl⟩
theorem d_X11_canLoad_77 : gd cX11_canLoad 77 .imul 1 78 := ⟨by decide +kernel, rfl⟩
theorem d_X11_canLoad_78 : gd cX11_canLoad 78 (.istore 4) 2 80 := ⟨by decide +kernel, rfl⟩
theorem d_X11_canLoad_80 : gd cX11_canLoad 80 (.aload_n 0) 1 81 := ⟨by decide +kernel, rfl⟩
theorem d_X11_canLoad_81 : gd cX11_canLoad 81 (.getfield 37) 3 84 := ⟨by decide +kernel, rfl⟩
theorem d_X11_canLoad_84 : gd cX11_canLoad 84 (.aload_n 0) 1 85 := ⟨by decide +kernel, rfl⟩
theorem d_X11_canLoad_85 : gd cX11_canLoad 85 (.getfield 44) 3 88 := ⟨by decide +kernel, rfl⟩
theorem d_X11_canLoad_88 : gd cX11_canLoad 88 (.iload_n 2) 1 89 := ⟨by decide +kernel, rfl⟩
theorem d_X11_canLoad_89 : gd cX11_canLoad 89 (.iload_n 3) 1 90 := ⟨by decide +kernel, rfl⟩
theorem d_X11_canLoad_90 : gd cX11_canLoad 90 (.iconst 0) 1 91 := ⟨by decide +kernel, rfl⟩
theorem d_X11_canLoad_91 : gd cX11_canLoad 91 (.invokevirtual 150) 3 94 := ⟨by decide +kernel, rfl⟩
theorem d_X11_canLoad_94 : gd cX11_canLoad 94 (.invokevirtual 143) 3 97 := ⟨by decide +kernel, rfl⟩
theorem d_X11_canLoad_97 : gd cX11_canLoad 97 (.ifCond .eq 18) 3 100 := ⟨by decide +kernel, rfl⟩
theorem d_X11_canLoad_100 : gd cX11_canLoad 100 (.aload_n 0) 1 101 := ⟨by decide +kernel, rfl⟩
theorem d_X11_canLoad_101 : gd cX11_canLoad 101 (.getfield 44) 3 104 := ⟨by decide +kernel, rfl⟩
theorem d_X11_canLoad_104 : gd cX11_canLoad 104 (.iload_n 2) 1 105 := ⟨by decide +kernel, rfl⟩
theorem d_X11_canLoad_105 : gd cX11_canLoad 105 (.iload_n 3) 1 106 := ⟨by decide +kernel, rfl⟩
theorem d_X11_canLoad_106 : gd cX11_canLoad 106 (.iconst 1) 1 107 := ⟨by decide +kernel, rfl⟩
theorem d_X11_canLoad_107 : gd cX11_canLoad 107 (.invokevirtual 150) 3 110 := ⟨by decide +kernel, rfl⟩
theorem d_X11_canLoad_110 : gd cX11_canLoad 110 (.iload 4) 2 112 := ⟨by decide +kernel, rfl⟩
theorem d_X11_canLoad_112 : gd cX11_canLoad 112 (.if_icmp .le 5) 3 115 := ⟨by decide +kernel, rfl⟩
theorem d_X11_canLoad_115 : gd cX11_canLoad 115 (.iconst 0) 1 116 := ⟨by decide +kernel, rfl⟩
theorem d_X11_canLoad_116 : gd cX11_canLoad 116 .ireturn 1 117 := ⟨by decide +kernel, rfl⟩
theorem d_X11_canLoad_117 : gd cX11_canLoad 117 (.iinc 3 1) 3 120 := ⟨by decide +kernel, rfl⟩
theorem d_X11_canLoad_120 : gd cX11_canLoad 120 (.goto (-75)) 3 123 := ⟨by decide +kernel, rfl⟩
theorem d_X11_canLoad_123 : gd cX11_canLoad 123 (.iconst 1) 1 124 := ⟨by decide +kernel, rfl⟩
theorem d_X11_canLoad_124 : gd cX11_canLoad 124 .ireturn 1 125 := ⟨by decide +kernel, rfl⟩
def Bo_X11_canLoad_45 (q45 : Int32 → Int32 → Int32 → gs_M → Option (Int32 × gs_M)) (x1 : Int32) (x2 : Int32) (x3 : Int32) (μ : gs_M) : Option (Int32 × gs_M) :=
  bd (D_X9_rowsOf 10 x1 μ) (fun v3 u2 => if v3 ≤ x3 then (some ((1 : Int32), u2)) else (bd (D_X9_number 10 x1 x3 (0 : Int32) u2) (fun v7 u6 => bd (D_X9_number 10 x1 x3 (1 : Int32) u6) (fun v10 u9 => lt1 (v7 * v10) (fun v11 => bd (D_X9_number 13 x2 x3 (0 : Int32) u9) (fun v14 u13 => bd (D_X9_has 7 v14 u13) (fun v17 u16 => if v17 = 0 then (some ((0 : Int32), u16)) else (bd (D_X9_number 13 x2 x3 (1 : Int32) u16) (fun v21 u20 => if v21 ≤ v11 then (q45 x1 x2 (x3 + (1 : Int32)) u20) else (some ((0 : Int32), u20)))))))))))
def L_X11_canLoad_45  : Nat → Int32 → Int32 → Int32 → gs_M → Option (Int32 × gs_M)
  | 0 => fun _ _ _ _ => none
  | n + 1 => fun x1 x2 x3 μ => Bo_X11_canLoad_45  (L_X11_canLoad_45  n) x1 x2 x3 μ
def D_X11_canLoad (x1 : Int32) (x2 : Int32) (μ : gs_M) : Option (Int32 × gs_M) :=
  bd (D_X9_has 10 x1 μ) (fun v3 u2 => if v3 = 0 then (some ((0 : Int32), u2)) else (bd (D_X9_has 13 x2 u2) (fun v7 u6 => if v7 = 0 then (some ((0 : Int32), u6)) else (bd (D_X9_rowsOf 10 x1 u6) (fun v11 u10 => bd (D_X9_rowsOf 13 x2 u10) (fun v14 u13 => if v11 = v14 then (L_X11_canLoad_45 4096 x1 x2 (0 : Int32) u13) else (some ((0 : Int32), u13))))))))
section S_X11_canLoad
variable {p : Program} {l : Launch} {e : Env} {R : Room} {s : State} {m : MethodId} {args : Array Value} {below : List Frame} {meth : Method} {c : Code} {ad : Nat → Nat} {g : va_G} {tyc : Nat → ClassId}
set_option maxRecDepth 20000 in
theorem To_X11_canLoad_45  (hK : KC p R s m args meth c ad g tyc RX11 cX11_canLoad 5 (some .boolean) 2) {r : Int32} {μ2 : gs_M} {q45 : Int32 → Int32 → Int32 → gs_M → Option (Int32 × gs_M)} (hq45 : ∀ (x1 : Int32) (x2 : Int32) (x3 : Int32) (μ : gs_M), q45 x1 x2 x3 μ = some (r, μ2) → WJ p l e R s m args below meth c 0 0 (MQ below (gs_Q ad g tyc (some (.int r)) μ2) args s 0 0 (gs_A ad)) ad g tyc 5 45 [.ref 0, .int x1, .int x2, .int x3, gs_J] [] μ) {x1 : Int32} {x2 : Int32} {x3 : Int32} {μ : gs_M}  (hD : Bo_X11_canLoad_45 q45 x1 x2 x3 μ = some (r, μ2)) : WJ p l e R s m args below meth c 0 0 (MQ below (gs_Q ad g tyc (some (.int r)) μ2) args s 0 0 (gs_A ad)) ad g tyc 5 45 [.ref 0, .int x1, .int x2, .int x3, gs_J] [] μ := by
  unfold Bo_X11_canLoad_45 at hD
  refine r_iload_n hK d_X11_canLoad_45 rfl rfl ?_
  refine r_aload_n hK d_X11_canLoad_46 rfl rfl ?_
  refine r_getR hK d_X11_canLoad_47 fl_RX11_41_10 rfl kd_0 ?_
  refine r_ref (b := 10) R0_0_4 ?_
  refine r_iload_n hK d_X11_canLoad_50 rfl rfl ?_
  obtain ⟨v3, u2, e1, hD⟩ := bd_e hD
  refine r_callV (As := [.int x1]) (st := [.int x3]) (stk2 := [.int v3, .int x3]) hK (C_X9_rowsOf kd_10 e1) d_X11_canLoad_51 mf_X9_rowsOf ml_RX11_154 im_X9_rowsOf rfl se_8_RX9_X9_rowsOf kd_10 rfl (Nat.le_of_ble_eq_true rfl) (by decide) ⟨Nat.zero_le _, Nat.zero_le _⟩ rfl rfl ?_
  refine r_icmp_ge (tgt := 123) hK d_X11_canLoad_54 (by decide) (fun h4 => ?_) (fun h4 => ?_)
  · have hD := if_t hD h4
    refine r_iconst hK d_X11_canLoad_123 ci_1 ?_
    cases hD
    exact r_zret hK (Or.inr rfl) d_X11_canLoad_124
  · have hD := if_f hD h4
    refine r_aload_n hK d_X11_canLoad_57 rfl rfl ?_
    refine r_getR hK d_X11_canLoad_58 fl_RX11_41_10 rfl kd_0 ?_
    refine r_ref (b := 10) R0_0_4 ?_
    refine r_iload_n hK d_X11_canLoad_61 rfl rfl ?_
    refine r_iload_n hK d_X11_canLoad_62 rfl rfl ?_
    refine r_iconst hK d_X11_canLoad_63 ci_0 ?_
    obtain ⟨v7, u6, e5, hD⟩ := bd_e hD
    refine r_callV (As := [.int x1, .int x3, .int (0 : Int32)]) (st := []) (stk2 := [.int v7]) hK (C_X9_number kd_10 e5) d_X11_canLoad_64 mf_X9_number ml_RX11_150 im_X9_number rfl se_8_RX9_X9_number kd_10 rfl (Nat.le_of_ble_eq_true rfl) (by decide) ⟨Nat.zero_le _, Nat.zero_le _⟩ rfl rfl ?_
    refine r_aload_n hK d_X11_canLoad_67 rfl rfl ?_
    refine r_getR hK d_X11_canLoad_68 fl_RX11_41_10 rfl kd_0 ?_
    refine r_ref (b := 10) R0_0_4 ?_
    refine r_iload_n hK d_X11_canLoad_71 rfl rfl ?_
    refine r_iload_n hK d_X11_canLoad_72 rfl rfl ?_
    refine r_iconst hK d_X11_canLoad_73 ci_1 ?_
    obtain ⟨v10, u9, e8, hD⟩ := bd_e hD
    refine r_callV (As := [.int x1, .int x3, .int (1 : Int32)]) (st := [.int v7]) (stk2 := [.int v10, .int v7]) hK (C_X9_number kd_10 e8) d_X11_canLoad_74 mf_X9_number ml_RX11_150 im_X9_number rfl se_8_RX9_X9_number kd_10 rfl (Nat.le_of_ble_eq_true rfl) (by decide) ⟨Nat.zero_le _, Nat.zero_le _⟩ rfl rfl ?_
    refine r_imul hK d_X11_canLoad_77 ?_
    refine r_lti hD (fun v11 hD => ?_)
    refine r_istore hK d_X11_canLoad_78 (by decide) (ls2 := [.ref 0, .int x1, .int x2, .int x3, .int v11]) rfl ?_
    refine r_aload_n hK d_X11_canLoad_80 rfl rfl ?_
    refine r_getR hK d_X11_canLoad_81 fl_RX11_37_10 rfl kd_0 ?_
    refine r_ref (b := 7) R0_0_3 ?_
    refine r_aload_n hK d_X11_canLoad_84 rfl rfl ?_
    refine r_getR hK d_X11_canLoad_85 fl_RX11_44_10 rfl kd_0 ?_
    refine r_ref (b := 13) R0_0_5 ?_
    refine r_iload_n hK d_X11_canLoad_88 rfl rfl ?_
    refine r_iload_n hK d_X11_canLoad_89 rfl rfl ?_
    refine r_iconst hK d_X11_canLoad_90 ci_0 ?_
    obtain ⟨v14, u13, e12, hD⟩ := bd_e hD
    refine r_callV (As := [.int x2, .int x3, .int (0 : Int32)]) (st := [.ref 7]) (stk2 := [.int v14, .ref 7]) hK (C_X9_number kd_13 e12) d_X11_canLoad_91 mf_X9_number ml_RX11_150 im_X9_number rfl se_8_RX9_X9_number kd_13 rfl (Nat.le_of_ble_eq_true rfl) (by decide) ⟨Nat.zero_le _, Nat.zero_le _⟩ rfl rfl ?_
    obtain ⟨v17, u16, e15, hD⟩ := bd_e hD
    refine r_callV (As := [.int v14]) (st := []) (stk2 := [.int v17]) hK (C_X9_has kd_7 e15) d_X11_canLoad_94 mf_X9_has ml_RX11_143 im_X9_has rfl se_8_RX9_X9_has kd_7 rfl (Nat.le_of_ble_eq_true rfl) (by decide) ⟨Nat.zero_le _, Nat.zero_le _⟩ rfl rfl ?_
    refine r_if_eq (tgt := 115) hK d_X11_canLoad_97 (by decide) (fun h18 => ?_) (fun h18 => ?_)
    · have hD := if_t hD h18
      refine r_iconst hK d_X11_canLoad_115 ci_0 ?_
      cases hD
      exact r_zret hK (Or.inl rfl) d_X11_canLoad_116
    · have hD := if_f hD h18
      refine r_aload_n hK d_X11_canLoad_100 rfl rfl ?_
      refine r_getR hK d_X11_canLoad_101 fl_RX11_44_10 rfl kd_0 ?_
      refine r_ref (b := 13) R0_0_5 ?_
      refine r_iload_n hK d_X11_canLoad_104 rfl rfl ?_
      refine r_iload_n hK d_X11_canLoad_105 rfl rfl ?_
      refine r_iconst hK d_X11_canLoad_106 ci_1 ?_
      obtain ⟨v21, u20, e19, hD⟩ := bd_e hD
      refine r_callV (As := [.int x2, .int x3, .int (1 : Int32)]) (st := []) (stk2 := [.int v21]) hK (C_X9_number kd_13 e19) d_X11_canLoad_107 mf_X9_number ml_RX11_150 im_X9_number rfl se_8_RX9_X9_number kd_13 rfl (Nat.le_of_ble_eq_true rfl) (by decide) ⟨Nat.zero_le _, Nat.zero_le _⟩ rfl rfl ?_
      refine r_iload hK d_X11_canLoad_110 rfl ?_
      refine r_icmp_le (tgt := 117) hK d_X11_canLoad_112 (by decide) (fun h22 => ?_) (fun h22 => ?_)
      · have hD := if_t hD h22
        refine r_iinc hK d_X11_canLoad_117 rfl (v := x3 + (1 : Int32)) (by rw [ci_1]) (by decide) (ls2 := [.ref 0, .int x1, .int x2, .int (x3 + (1 : Int32)), .int v11]) rfl ?_
        refine r_goto (tgt := 45) hK d_X11_canLoad_120 (by decide) ?_
        refine r_junk [true, true, true, true, false] (ls2 := [.ref 0, .int x1, .int x2, .int (x3 + (1 : Int32)), gs_J]) rfl ?_
        exact hq45 _ _ _ _  hD
      · have hD := if_f hD h22
        refine r_iconst hK d_X11_canLoad_115 ci_0 ?_
        cases hD
        exact r_zret hK (Or.inl rfl) d_X11_canLoad_116
set_option maxRecDepth 20000 in
theorem TL_X11_canLoad_45  (hK : KC p R s m args meth c ad g tyc RX11 cX11_canLoad 5 (some .boolean) 2) {r : Int32} {μ2 : gs_M}   : ∀ (n : Nat) (x1 : Int32) (x2 : Int32) (x3 : Int32) (μ : gs_M), L_X11_canLoad_45  n x1 x2 x3 μ = some (r, μ2) → WJ p l e R s m args below meth c 0 0 (MQ below (gs_Q ad g tyc (some (.int r)) μ2) args s 0 0 (gs_A ad)) ad g tyc 5 45 [.ref 0, .int x1, .int x2, .int x3, gs_J] [] μ := by
  intro n
  induction n with
  | zero => intro x1 x2 x3 μ  hD; cases hD
  | succ n ih => intro x1 x2 x3 μ  hD; exact To_X11_canLoad_45 hK  ih  hD
set_option maxRecDepth 20000 in
theorem C_X11_canLoad  {x1 : Int32} {x2 : Int32} {μ : gs_M} {r : Int32} {μ2 : gs_M}  (hD : D_X11_canLoad x1 x2 μ = some (r, μ2)) : CALL yX11_canLoad cX11_canLoad 5 (some .boolean) 2 [.ref 0, .int x1, .int x2] μ (some (.int r)) μ2 := by
  unfold D_X11_canLoad at hD
  refine gs_enter mf_X11_canLoad (Nat.le_of_ble_eq_true rfl) (ls := [.ref 0, .int x1, .int x2, gs_J, gs_J]) rfl (fun p l e R s m args below meth c ad g tyc hK => ?_)
  have hK : KC p R s m args meth c ad g tyc RX11 cX11_canLoad 5 (some .boolean) 2 := hK
  refine r_aload_n hK d_X11_canLoad_0 rfl rfl ?_
  refine r_getR hK d_X11_canLoad_1 fl_RX11_41_10 rfl kd_0 ?_
  refine r_ref (b := 10) R0_0_4 ?_
  refine r_iload_n hK d_X11_canLoad_4 rfl rfl ?_
  obtain ⟨v3, u2, e1, hD⟩ := bd_e hD
  refine r_callV (As := [.int x1]) (st := []) (stk2 := [.int v3]) hK (C_X9_has kd_10 e1) d_X11_canLoad_5 mf_X9_has ml_RX11_143 im_X9_has rfl se_8_RX9_X9_has kd_10 rfl (Nat.le_of_ble_eq_true rfl) (by decide) ⟨Nat.zero_le _, Nat.zero_le _⟩ rfl rfl ?_
  refine r_if_eq (tgt := 41) hK d_X11_canLoad_8 (by decide) (fun h4 => ?_) (fun h4 => ?_)
  · have hD := if_t hD h4
    refine r_iconst hK d_X11_canLoad_41 ci_0 ?_
    cases hD
    exact r_zret hK (Or.inl rfl) d_X11_canLoad_42
  · have hD := if_f hD h4
    refine r_aload_n hK d_X11_canLoad_11 rfl rfl ?_
    refine r_getR hK d_X11_canLoad_12 fl_RX11_44_10 rfl kd_0 ?_
    refine r_ref (b := 13) R0_0_5 ?_
    refine r_iload_n hK d_X11_canLoad_15 rfl rfl ?_
    obtain ⟨v7, u6, e5, hD⟩ := bd_e hD
    refine r_callV (As := [.int x2]) (st := []) (stk2 := [.int v7]) hK (C_X9_has kd_13 e5) d_X11_canLoad_16 mf_X9_has ml_RX11_143 im_X9_has rfl se_8_RX9_X9_has kd_13 rfl (Nat.le_of_ble_eq_true rfl) (by decide) ⟨Nat.zero_le _, Nat.zero_le _⟩ rfl rfl ?_
    refine r_if_eq (tgt := 41) hK d_X11_canLoad_19 (by decide) (fun h8 => ?_) (fun h8 => ?_)
    · have hD := if_t hD h8
      refine r_iconst hK d_X11_canLoad_41 ci_0 ?_
      cases hD
      exact r_zret hK (Or.inl rfl) d_X11_canLoad_42
    · have hD := if_f hD h8
      refine r_aload_n hK d_X11_canLoad_22 rfl rfl ?_
      refine r_getR hK d_X11_canLoad_23 fl_RX11_41_10 rfl kd_0 ?_
      refine r_ref (b := 10) R0_0_4 ?_
      refine r_iload_n hK d_X11_canLoad_26 rfl rfl ?_
      obtain ⟨v11, u10, e9, hD⟩ := bd_e hD
      refine r_callV (As := [.int x1]) (st := []) (stk2 := [.int v11]) hK (C_X9_rowsOf kd_10 e9) d_X11_canLoad_27 mf_X9_rowsOf ml_RX11_154 im_X9_rowsOf rfl se_8_RX9_X9_rowsOf kd_10 rfl (Nat.le_of_ble_eq_true rfl) (by decide) ⟨Nat.zero_le _, Nat.zero_le _⟩ rfl rfl ?_
      refine r_aload_n hK d_X11_canLoad_30 rfl rfl ?_
      refine r_getR hK d_X11_canLoad_31 fl_RX11_44_10 rfl kd_0 ?_
      refine r_ref (b := 13) R0_0_5 ?_
      refine r_iload_n hK d_X11_canLoad_34 rfl rfl ?_
      obtain ⟨v14, u13, e12, hD⟩ := bd_e hD
      refine r_callV (As := [.int x2]) (st := [.int v11]) (stk2 := [.int v14, .int v11]) hK (C_X9_rowsOf kd_13 e12) d_X11_canLoad_35 mf_X9_rowsOf ml_RX11_154 im_X9_rowsOf rfl se_8_RX9_X9_rowsOf kd_13 rfl (Nat.le_of_ble_eq_true rfl) (by decide) ⟨Nat.zero_le _, Nat.zero_le _⟩ rfl rfl ?_
      refine r_icmp_eq (tgt := 43) hK d_X11_canLoad_38 (by decide) (fun h15 => ?_) (fun h15 => ?_)
      · have hD := if_t hD h15
        refine r_iconst hK d_X11_canLoad_43 ci_0 ?_
        refine r_istore_n hK d_X11_canLoad_44 rfl (by decide) (ls2 := [.ref 0, .int x1, .int x2, .int (0 : Int32), gs_J]) rfl ?_
        exact TL_X11_canLoad_45 hK  _ _ _ _ _  hD
      · have hD := if_f hD h15
        refine r_iconst hK d_X11_canLoad_41 ci_0 ?_
        cases hD
        exact r_zret hK (Or.inl rfl) d_X11_canLoad_42
end S_X11_canLoad
theorem d_X11_lay_0 : gd cX11_lay 0 (.aload_n 1) 1 1 := ⟨by decide +kernel, rfl⟩
theorem d_X11_lay_1 : gd cX11_lay 1 (.aload_n 0) 1 2 := ⟨by decide +kernel, rfl⟩
theorem d_X11_lay_2 : gd cX11_lay 2 (.getfield 41) 3 5 := ⟨by decide +kernel, rfl⟩
theorem d_X11_lay_5 : gd cX11_lay 5 (.iload_n 2) 1 6 := ⟨by decide +kernel, rfl⟩
theorem d_X11_lay_6 : gd cX11_lay 6 (.invokevirtual 154) 3 9 := ⟨by decide +kernel, rfl⟩
theorem d_X11_lay_9 : gd cX11_lay 9 (.invokevirtual 178) 3 12 := ⟨by decide +kernel, rfl⟩
theorem d_X11_lay_12 : gd cX11_lay 12 (.iconst 0) 1 13 := ⟨by decide +kernel, rfl⟩
theorem d_X11_lay_13 : gd cX11_lay 13 (.istore 4) 2 15 := ⟨by decide +kernel, rfl⟩
theorem d_X11_lay_15 : gd cX11_lay 15 (.iload 4) 2 17 := ⟨by decide +kernel, rfl⟩
theorem d_X11_lay_17 : gd cX11_lay 17 (.aload_n 1) 1 18 := ⟨by decide +kernel, rfl⟩
theorem d_X11_lay_18 : gd cX11_lay 18 (.getfield 181) 3 21 := ⟨by decide +kernel, rfl⟩
theorem d_X11_lay_21 : gd cX11_lay 21 (.if_icmp .ge 133) 3 24 := ⟨by decide +kernel, rfl⟩
theorem d_X11_lay_24 : gd cX11_lay 24 (.aload_n 1) 1 25 := ⟨by decide +kernel, rfl⟩
theorem d_X11_lay_25 : gd cX11_lay 25 (.getfield 182) 3 28 := ⟨by decide +kernel, rfl⟩
theorem d_X11_lay_28 : gd cX11_lay 28 (.iload 4) 2 30 := ⟨by decide +kernel, rfl⟩
theorem d_X11_lay_30 : gd cX11_lay 30 .aaload 1 31 := ⟨by decide +kernel, rfl⟩
theorem d_X11_lay_31 : gd cX11_lay 31 (.astore 5) 2 33 := ⟨by decide +kernel, rfl⟩
theorem d_X11_lay_33 : gd cX11_lay 33 (.aload 5) 2 35 := ⟨by decide +kernel, rfl⟩
theorem d_X11_lay_35 : gd cX11_lay 35 (.aload_n 0) 1 36 := ⟨by decide +kernel, rfl⟩
theorem d_X11_lay_36 : gd cX11_lay 36 (.getfield 41) 3 39 := ⟨by decide +kernel, rfl⟩
theorem d_X11_lay_39 : gd cX11_lay 39 (.iload_n 2) 1 40 := ⟨by decide +kernel, rfl⟩
theorem d_X11_lay_40 : gd cX11_lay 40 (.iload 4) 2 42 := ⟨by decide +kernel, rfl⟩
theorem d_X11_lay_42 : gd cX11_lay 42 (.iconst 0) 1 43 := ⟨by decide +kernel, rfl⟩
theorem d_X11_lay_43 : gd cX11_lay 43 (.invokevirtual 150) 3 46 := ⟨by decide +kernel, rfl⟩
theorem d_X11_lay_46 : gd cX11_lay 46 (.aload_n 0) 1 47 := ⟨by decide +kernel, rfl⟩
theorem d_X11_lay_47 : gd cX11_lay 47 (.getfield 41) 3 50 := ⟨by decide +kernel, rfl⟩
theorem d_X11_lay_50 : gd cX11_lay 50 (.iload_n 2) 1 51 := ⟨by decide +kernel, rfl⟩
theorem d_X11_lay_51 : gd cX11_lay 51 (.iload 4) 2 53 := ⟨by decide +kernel, rfl⟩
theorem d_X11_lay_53 : gd cX11_lay 53 (.iconst 1) 1 54 := ⟨by decide +kernel, rfl⟩
theorem d_X11_lay_54 : gd cX11_lay 54 (.invokevirtual 150) 3 57 := ⟨by decide +kernel, rfl⟩
theorem d_X11_lay_57 : gd cX11_lay 57 (.invokevirtual 186) 3 60 := ⟨by decide +kernel, rfl⟩
theorem d_X11_lay_60 : gd cX11_lay 60 (.aload 5) 2 62 := ⟨by decide +kernel, rfl⟩
theorem d_X11_lay_62 : gd cX11_lay 62 (.aload_n 0) 1 63 := ⟨by decide +kernel, rfl⟩
theorem d_X11_lay_63 : gd cX11_lay 63 (.getfield 37) 3 66 := ⟨by decide +kernel, rfl⟩
theorem d_X11_lay_66 : gd cX11_lay 66 (.aload_n 0) 1 67 := ⟨by decide +kernel, rfl⟩
theorem d_X11_lay_67 : gd cX11_lay 67 (.getfield 44) 3 70 := ⟨by decide +kernel, rfl⟩
theorem d_X11_lay_70 : gd cX11_lay 70 (.iload_n 3) 1 71 := ⟨by decide +kernel, rfl⟩
theorem d_X11_lay_71 : gd cX11_lay 71 (.iload 4) 2 73 := ⟨by decide +kernel, rfl⟩
theorem d_X11_lay_73 : gd cX11_lay 73 (.iconst 0) 1 74 := ⟨by decide +kernel, rfl⟩
theorem d_X11_lay_74 : gd cX11_lay 74 (.invokevirtual 150) 3 77 := ⟨by decide +kernel, rfl⟩
theorem d_X11_lay_77 : gd cX11_lay 77 (.invokevirtual 192) 3 80 := ⟨by decide +kernel, rfl⟩
theorem d_X11_lay_80 : gd cX11_lay 80 (.aload 5) 2 82 := ⟨by decide +kernel, rfl⟩
theorem d_X11_lay_82 : gd cX11_lay 82 (.aload_n 0) 1 83 := ⟨by decide +kernel, rfl⟩
theorem d_X11_lay_83 : gd cX11_lay 83 (.getfield 44) 3 86 := ⟨by decide +kernel, rfl⟩
theorem d_X11_lay_86 : gd cX11_lay 86 (.iload_n 3) 1 87 := ⟨by decide +kernel, rfl⟩
theorem d_X11_lay_87 : gd cX11_lay 87 (.iload 4) 2 89 := ⟨by decide +kernel, rfl⟩
theorem d_X11_lay_89 : gd cX11_lay 89 (.iconst 3) 1 90 := ⟨by decide +kernel, rfl⟩
theorem d_X11_lay_90 : gd cX11_lay 90 (.invokevirtual 150) 3 93 := ⟨by decide +kernel, rfl⟩
theorem d_X11_lay_93 : gd cX11_lay 93 (.putfield 196) 3 96 := ⟨by decide +kernel, rfl⟩
theorem d_X11_lay_96 : gd cX11_lay 96 (.aload 5) 2 98 := ⟨by decide +kernel, rfl⟩
theorem d_X11_lay_98 : gd cX11_lay 98 (.aload_n 0) 1 99 := ⟨by decide +kernel, rfl⟩
theorem d_X11_lay_99 : gd cX11_lay 99 (.getfield 44) 3 102 := ⟨by decide +kernel, rfl⟩
theorem d_X11_lay_102 : gd cX11_lay 102 (.iload_n 3) 1 103 := ⟨by decide +kernel, rfl⟩
theorem d_X11_lay_103 : gd cX11_lay 103 (.iload 4) 2 105 := ⟨by decide +kernel, rfl⟩
theorem d_X11_lay_105 : gd cX11_lay 105 (.iconst 4) 1 106 := ⟨by decide +kernel, rfl⟩
theorem d_X11_lay_106 : gd cX11_lay 106 (.invokevirtual 150) 3 109 := ⟨by decide +kernel, rfl⟩
theorem d_X11_lay_109 : gd cX11_lay 109 (.putfield 199) 3 112 := ⟨by decide +kernel, rfl⟩
theorem d_X11_lay_112 : gd cX11_lay 112 (.aload 5) 2 114 := ⟨by decide +kernel, rfl⟩
theorem d_X11_lay_114 : gd cX11_lay 114 (.aload_n 0) 1 115 := ⟨by decide +kernel, rfl⟩
theorem d_X11_lay_115 : gd cX11_lay 115 (.getfield 44) 3 118 := ⟨by decide +kernel, rfl⟩
theorem d_X11_lay_118 : gd cX11_lay 118 (.iload_n 3) 1 119 := ⟨by decide +kernel, rfl⟩
theorem d_X11_lay_119 : gd cX11_lay 119 (.iload 4) 2 121 := ⟨by decide +kernel, rfl⟩
theorem d_X11_lay_121 : gd cX11_lay 121 (.iconst 1) 1 122 := ⟨by decide +kernel, rfl⟩
theorem d_X11_lay_122 : gd cX11_lay 122 (.invokevirtual 150) 3 125 := ⟨by decide +kernel, rfl⟩
theorem d_X11_lay_125 : gd cX11_lay 125 (.aload_n 0) 1 126 := ⟨by decide +kernel, rfl⟩
theorem d_X11_lay_126 : gd cX11_lay 126 (.getfield 44) 3 129 := ⟨by decide +kernel, rfl⟩
theorem d_X11_lay_129 : gd cX11_lay 129 (.iload_n 3) 1 130 := ⟨by decide +kernel, rfl⟩
theorem d_X11_lay_130 : gd cX11_lay 130 (.iload 4) 2 132 := ⟨by decide +kernel, rfl⟩
theorem d_X11_lay_132 : gd cX11_lay 132 (.iconst 2) 1 133 := ⟨by decide +kernel, rfl⟩
theorem d_X11_lay_133 : gd cX11_lay 133 (.invokevirtual 150) 3 136 := ⟨by decide +kernel, rfl⟩
theorem d_X11_lay_136 : gd cX11_lay 136 (.iconst 1) 1 137 := ⟨by decide +kernel, rfl⟩
theorem d_X11_lay_137 : gd cX11_lay 137 (.if_icmp .ne 7) 3 140 := ⟨by decide +kernel, rfl⟩
theorem d_X11_lay_140 : gd cX11_lay 140 (.iconst 1) 1 141 := ⟨by decide +kernel, rfl⟩
theorem d_X11_lay_141 : gd cX11_lay 141 (.goto 4) 3 144 := ⟨by decide +kernel, rfl⟩
theorem d_X11_lay_144 : gd cX11_lay 144 (.iconst 0) 1 145 := ⟨by decide +kernel, rfl⟩
theorem d_X11_lay_145 : gd cX11_lay 145 (.invokevirtual 202) 3 148 := ⟨by decide +kernel, rfl⟩
theorem d_X11_lay_148 : gd cX11_lay 148 (.iinc 4 1) 3 151 := ⟨by decide +kernel, rfl⟩
theorem d_X11_lay_151 : gd cX11_lay 151 (.goto (-136)) 3 154 := ⟨by decide +kernel, rfl⟩
theorem d_X11_lay_154 : gd cX11_lay 154 .return_ 1 155 := ⟨by decide +kernel, rfl⟩
def B_X11_lay_145 (q15 : Nat → Int32 → Int32 → Int32 → gs_M → Option (gs_M)) (a1 : Nat) (x2 : Int32) (x3 : Int32) (x4 : Int32) (as0 : Nat) (xs1 : Int32) (xs2 : Int32) (μ : gs_M) : Option (gs_M) :=
  bd0 (D_X1_fill as0 xs1 xs2 μ) (fun u2 => q15 a1 x2 x3 (x4 + (1 : Int32)) u2)
def Bo_X11_lay_15 (q15 : Nat → Int32 → Int32 → Int32 → gs_M → Option (gs_M)) (a1 : Nat) (x2 : Int32) (x3 : Int32) (x4 : Int32) (μ : gs_M) : Option (gs_M) :=
  if (gI μ a1 1) ≤ x4 then (some μ) else (ck (inb x4 4) (bd (D_X9_number 10 x2 x4 (0 : Int32) μ) (fun v5 u4 => bd (D_X9_number 10 x2 x4 (1 : Int32) u4) (fun v8 u7 => bd0 (D_X1_shape (a1 + 2 + 2 * Int32.toNatClampNeg x4) v5 v8 u7) (fun u10 => bd (D_X9_number 13 x3 x4 (0 : Int32) u10) (fun v13 u12 => bd0 (D_X1_takeStuff (a1 + 2 + 2 * Int32.toNatClampNeg x4) 7 v13 u12) (fun u15 => bd (D_X9_number 13 x3 x4 (3 : Int32) u15) (fun v18 u17 => lt1 (sI u17 (a1 + 2 + 2 * Int32.toNatClampNeg x4) 2 v18) (fun u19 => bd (D_X9_number 13 x3 x4 (4 : Int32) u19) (fun v22 u21 => lt1 (sI u21 (a1 + 2 + 2 * Int32.toNatClampNeg x4) 3 v22) (fun u23 => bd (D_X9_number 13 x3 x4 (1 : Int32) u23) (fun v26 u25 => bd (D_X9_number 13 x3 x4 (2 : Int32) u25) (fun v29 u28 => if v29 = (1 : Int32) then (B_X11_lay_145 q15 a1 x2 x3 x4 (a1 + 2 + 2 * Int32.toNatClampNeg x4) v26 (1 : Int32) u28) else (B_X11_lay_145 q15 a1 x2 x3 x4 (a1 + 2 + 2 * Int32.toNatClampNeg x4) v26 (0 : Int32) u28))))))))))))))
def L_X11_lay_15  : Nat → Nat → Int32 → Int32 → Int32 → gs_M → Option (gs_M)
  | 0 => fun _ _ _ _ _ => none
  | n + 1 => fun a1 x2 x3 x4 μ => Bo_X11_lay_15  (L_X11_lay_15  n) a1 x2 x3 x4 μ
def D_X11_lay (a1 : Nat) (x2 : Int32) (x3 : Int32) (μ : gs_M) : Option (gs_M) :=
  bd (D_X9_rowsOf 10 x2 μ) (fun v3 u2 => bd0 (D_X10_startAnew a1 v3 u2) (fun u5 => L_X11_lay_15 4096 a1 x2 x3 (0 : Int32) u5))
section S_X11_lay
variable {p : Program} {l : Launch} {e : Env} {R : Room} {s : State} {m : MethodId} {args : Array Value} {below : List Frame} {meth : Method} {c : Code} {ad : Nat → Nat} {g : va_G} {tyc : Nat → ClassId}
set_option maxRecDepth 20000 in
theorem T_X11_lay_145  (hK : KC p R s m args meth c ad g tyc RX11 cX11_lay 6 none 5) {μ2 : gs_M} {q15 : Nat → Int32 → Int32 → Int32 → gs_M → Option (gs_M)} (hq15 : ∀ (a1 : Nat) (x2 : Int32) (x3 : Int32) (x4 : Int32) (μ : gs_M), kd a1 = 9 → q15 a1 x2 x3 x4 μ = some μ2 → WJ p l e R s m args below meth c 0 0 (MQ below (gs_Q ad g tyc none μ2) args s 0 0 (gs_A ad)) ad g tyc 6 15 [.ref 0, .ref a1, .int x2, .int x3, .int x4, gs_J] [] μ) {a1 : Nat} {x2 : Int32} {x3 : Int32} {x4 : Int32} {as0 : Nat} {xs1 : Int32} {xs2 : Int32} {μ : gs_M} (hk1 : kd a1 = 9) (hks0 : kd as0 = 1) (hD : B_X11_lay_145 q15 a1 x2 x3 x4 as0 xs1 xs2 μ = some μ2) : WJ p l e R s m args below meth c 0 0 (MQ below (gs_Q ad g tyc none μ2) args s 0 0 (gs_A ad)) ad g tyc 6 145 [.ref 0, .ref a1, .int x2, .int x3, .int x4, gs_J] [.int xs2, .int xs1, .ref as0] μ := by
  unfold B_X11_lay_145 at hD
  obtain ⟨u2, e1, hD⟩ := bd0_e hD
  refine r_callV (As := [.int xs1, .int xs2]) (st := []) (stk2 := []) hK (C_X1_fill hks0 e1) d_X11_lay_145 mf_X1_fill ml_RX11_202 im_X1_fill rfl se_1_RX1_X1_fill hks0 rfl (Nat.le_of_ble_eq_true rfl) (by decide) ⟨Nat.zero_le _, Nat.zero_le _⟩ rfl rfl ?_
  refine r_iinc hK d_X11_lay_148 rfl (v := x4 + (1 : Int32)) (by rw [ci_1]) (by decide) (ls2 := [.ref 0, .ref a1, .int x2, .int x3, .int (x4 + (1 : Int32)), gs_J]) rfl ?_
  refine r_goto (tgt := 15) hK d_X11_lay_151 (by decide) ?_
  exact hq15 _ _ _ _ _ hk1 hD
set_option maxRecDepth 20000 in
theorem To_X11_lay_15  (hK : KC p R s m args meth c ad g tyc RX11 cX11_lay 6 none 5) {μ2 : gs_M} {q15 : Nat → Int32 → Int32 → Int32 → gs_M → Option (gs_M)} (hq15 : ∀ (a1 : Nat) (x2 : Int32) (x3 : Int32) (x4 : Int32) (μ : gs_M), kd a1 = 9 → q15 a1 x2 x3 x4 μ = some μ2 → WJ p l e R s m args below meth c 0 0 (MQ below (gs_Q ad g tyc none μ2) args s 0 0 (gs_A ad)) ad g tyc 6 15 [.ref 0, .ref a1, .int x2, .int x3, .int x4, gs_J] [] μ) {a1 : Nat} {x2 : Int32} {x3 : Int32} {x4 : Int32} {μ : gs_M} (hk1 : kd a1 = 9) (hD : Bo_X11_lay_15 q15 a1 x2 x3 x4 μ = some μ2) : WJ p l e R s m args below meth c 0 0 (MQ below (gs_Q ad g tyc none μ2) args s 0 0 (gs_A ad)) ad g tyc 6 15 [.ref 0, .ref a1, .int x2, .int x3, .int x4, gs_J] [] μ := by
  unfold Bo_X11_lay_15 at hD
  refine r_iload hK d_X11_lay_15 rfl ?_
  refine r_aload_n hK d_X11_lay_17 rfl rfl ?_
  refine r_getI hK d_X11_lay_18 fl_RX11_181_9 rfl hk1 ?_
  refine r_icmp_ge (tgt := 154) hK d_X11_lay_21 (by decide) (fun h1 => ?_) (fun h1 => ?_)
  · have hD := if_t hD h1
    cases hD
    exact r_vret hK d_X11_lay_154
  · have hD := if_f hD h1
    refine r_aload_n hK d_X11_lay_24 rfl rfl ?_
    refine r_getR hK d_X11_lay_25 fl_RX11_182_9 rfl hk1 ?_
    refine r_ref (b := (a1 + 1)) ((ly_ves _ hk1).1.1) ?_
    refine r_iload hK d_X11_lay_28 rfl ?_
    obtain ⟨h2, hD⟩ := ck_e hD
    refine r_aaldH hK d_X11_lay_30 ((ly_ves _ hk1).1.2.1) ((ly_ves _ hk1).1.2.2) (inb_in h2) ?_
    refine r_ref (b := (a1 + 2 + 2 * Int32.toNatClampNeg x4)) ((ly_vh _ hk1 _ (inb_lt h2)).1) ?_
    refine r_astore hK d_X11_lay_31 (by decide) (ls2 := [.ref 0, .ref a1, .int x2, .int x3, .int x4, .ref (a1 + 2 + 2 * Int32.toNatClampNeg x4)]) rfl ?_
    refine r_aload hK d_X11_lay_33 rfl ?_
    refine r_aload_n hK d_X11_lay_35 rfl rfl ?_
    refine r_getR hK d_X11_lay_36 fl_RX11_41_10 rfl kd_0 ?_
    refine r_ref (b := 10) R0_0_4 ?_
    refine r_iload_n hK d_X11_lay_39 rfl rfl ?_
    refine r_iload hK d_X11_lay_40 rfl ?_
    refine r_iconst hK d_X11_lay_42 ci_0 ?_
    obtain ⟨v5, u4, e3, hD⟩ := bd_e hD
    refine r_callV (As := [.int x2, .int x4, .int (0 : Int32)]) (st := [.ref (a1 + 2 + 2 * Int32.toNatClampNeg x4)]) (stk2 := [.int v5, .ref (a1 + 2 + 2 * Int32.toNatClampNeg x4)]) hK (C_X9_number kd_10 e3) d_X11_lay_43 mf_X9_number ml_RX11_150 im_X9_number rfl se_8_RX9_X9_number kd_10 rfl (Nat.le_of_ble_eq_true rfl) (by decide) ⟨Nat.zero_le _, Nat.zero_le _⟩ rfl rfl ?_
    refine r_aload_n hK d_X11_lay_46 rfl rfl ?_
    refine r_getR hK d_X11_lay_47 fl_RX11_41_10 rfl kd_0 ?_
    refine r_ref (b := 10) R0_0_4 ?_
    refine r_iload_n hK d_X11_lay_50 rfl rfl ?_
    refine r_iload hK d_X11_lay_51 rfl ?_
    refine r_iconst hK d_X11_lay_53 ci_1 ?_
    obtain ⟨v8, u7, e6, hD⟩ := bd_e hD
    refine r_callV (As := [.int x2, .int x4, .int (1 : Int32)]) (st := [.int v5, .ref (a1 + 2 + 2 * Int32.toNatClampNeg x4)]) (stk2 := [.int v8, .int v5, .ref (a1 + 2 + 2 * Int32.toNatClampNeg x4)]) hK (C_X9_number kd_10 e6) d_X11_lay_54 mf_X9_number ml_RX11_150 im_X9_number rfl se_8_RX9_X9_number kd_10 rfl (Nat.le_of_ble_eq_true rfl) (by decide) ⟨Nat.zero_le _, Nat.zero_le _⟩ rfl rfl ?_
    obtain ⟨u10, e9, hD⟩ := bd0_e hD
    refine r_callV (As := [.int v5, .int v8]) (st := []) (stk2 := []) hK (C_X1_shape ((ly_vh _ hk1 _ (inb_lt h2)).2) e9) d_X11_lay_57 mf_X1_shape ml_RX11_186 im_X1_shape rfl se_1_RX1_X1_shape ((ly_vh _ hk1 _ (inb_lt h2)).2) rfl (Nat.le_of_ble_eq_true rfl) (by decide) ⟨Nat.zero_le _, Nat.zero_le _⟩ rfl rfl ?_
    refine r_aload hK d_X11_lay_60 rfl ?_
    refine r_aload_n hK d_X11_lay_62 rfl rfl ?_
    refine r_getR hK d_X11_lay_63 fl_RX11_37_10 rfl kd_0 ?_
    refine r_ref (b := 7) R0_0_3 ?_
    refine r_aload_n hK d_X11_lay_66 rfl rfl ?_
    refine r_getR hK d_X11_lay_67 fl_RX11_44_10 rfl kd_0 ?_
    refine r_ref (b := 13) R0_0_5 ?_
    refine r_iload_n hK d_X11_lay_70 rfl rfl ?_
    refine r_iload hK d_X11_lay_71 rfl ?_
    refine r_iconst hK d_X11_lay_73 ci_0 ?_
    obtain ⟨v13, u12, e11, hD⟩ := bd_e hD
    refine r_callV (As := [.int x3, .int x4, .int (0 : Int32)]) (st := [.ref 7, .ref (a1 + 2 + 2 * Int32.toNatClampNeg x4)]) (stk2 := [.int v13, .ref 7, .ref (a1 + 2 + 2 * Int32.toNatClampNeg x4)]) hK (C_X9_number kd_13 e11) d_X11_lay_74 mf_X9_number ml_RX11_150 im_X9_number rfl se_8_RX9_X9_number kd_13 rfl (Nat.le_of_ble_eq_true rfl) (by decide) ⟨Nat.zero_le _, Nat.zero_le _⟩ rfl rfl ?_
    obtain ⟨u15, e14, hD⟩ := bd0_e hD
    refine r_callV (As := [.ref 7, .int v13]) (st := []) (stk2 := []) hK (C_X1_takeStuff ((ly_vh _ hk1 _ (inb_lt h2)).2) kd_7 e14) d_X11_lay_77 mf_X1_takeStuff ml_RX11_192 im_X1_takeStuff rfl se_1_RX1_X1_takeStuff ((ly_vh _ hk1 _ (inb_lt h2)).2) rfl (Nat.le_of_ble_eq_true rfl) (by decide) ⟨Nat.zero_le _, Nat.zero_le _⟩ rfl rfl ?_
    refine r_aload hK d_X11_lay_80 rfl ?_
    refine r_aload_n hK d_X11_lay_82 rfl rfl ?_
    refine r_getR hK d_X11_lay_83 fl_RX11_44_10 rfl kd_0 ?_
    refine r_ref (b := 13) R0_0_5 ?_
    refine r_iload_n hK d_X11_lay_86 rfl rfl ?_
    refine r_iload hK d_X11_lay_87 rfl ?_
    refine r_iconst hK d_X11_lay_89 ci_3 ?_
    obtain ⟨v18, u17, e16, hD⟩ := bd_e hD
    refine r_callV (As := [.int x3, .int x4, .int (3 : Int32)]) (st := [.ref (a1 + 2 + 2 * Int32.toNatClampNeg x4)]) (stk2 := [.int v18, .ref (a1 + 2 + 2 * Int32.toNatClampNeg x4)]) hK (C_X9_number kd_13 e16) d_X11_lay_90 mf_X9_number ml_RX11_150 im_X9_number rfl se_8_RX9_X9_number kd_13 rfl (Nat.le_of_ble_eq_true rfl) (by decide) ⟨Nat.zero_le _, Nat.zero_le _⟩ rfl rfl ?_
    refine r_putI hK d_X11_lay_93 fl_RX11_196_1 rfl rfl ((ly_vh _ hk1 _ (inb_lt h2)).2) ?_
    refine r_ltm hD (fun u19 hD => ?_)
    refine r_aload hK d_X11_lay_96 rfl ?_
    refine r_aload_n hK d_X11_lay_98 rfl rfl ?_
    refine r_getR hK d_X11_lay_99 fl_RX11_44_10 rfl kd_0 ?_
    refine r_ref (b := 13) R0_0_5 ?_
    refine r_iload_n hK d_X11_lay_102 rfl rfl ?_
    refine r_iload hK d_X11_lay_103 rfl ?_
    refine r_iconst hK d_X11_lay_105 ci_4 ?_
    obtain ⟨v22, u21, e20, hD⟩ := bd_e hD
    refine r_callV (As := [.int x3, .int x4, .int (4 : Int32)]) (st := [.ref (a1 + 2 + 2 * Int32.toNatClampNeg x4)]) (stk2 := [.int v22, .ref (a1 + 2 + 2 * Int32.toNatClampNeg x4)]) hK (C_X9_number kd_13 e20) d_X11_lay_106 mf_X9_number ml_RX11_150 im_X9_number rfl se_8_RX9_X9_number kd_13 rfl (Nat.le_of_ble_eq_true rfl) (by decide) ⟨Nat.zero_le _, Nat.zero_le _⟩ rfl rfl ?_
    refine r_putI hK d_X11_lay_109 fl_RX11_199_1 rfl rfl ((ly_vh _ hk1 _ (inb_lt h2)).2) ?_
    refine r_ltm hD (fun u23 hD => ?_)
    refine r_aload hK d_X11_lay_112 rfl ?_
    refine r_aload_n hK d_X11_lay_114 rfl rfl ?_
    refine r_getR hK d_X11_lay_115 fl_RX11_44_10 rfl kd_0 ?_
    refine r_ref (b := 13) R0_0_5 ?_
    refine r_iload_n hK d_X11_lay_118 rfl rfl ?_
    refine r_iload hK d_X11_lay_119 rfl ?_
    refine r_iconst hK d_X11_lay_121 ci_1 ?_
    obtain ⟨v26, u25, e24, hD⟩ := bd_e hD
    refine r_callV (As := [.int x3, .int x4, .int (1 : Int32)]) (st := [.ref (a1 + 2 + 2 * Int32.toNatClampNeg x4)]) (stk2 := [.int v26, .ref (a1 + 2 + 2 * Int32.toNatClampNeg x4)]) hK (C_X9_number kd_13 e24) d_X11_lay_122 mf_X9_number ml_RX11_150 im_X9_number rfl se_8_RX9_X9_number kd_13 rfl (Nat.le_of_ble_eq_true rfl) (by decide) ⟨Nat.zero_le _, Nat.zero_le _⟩ rfl rfl ?_
    refine r_aload_n hK d_X11_lay_125 rfl rfl ?_
    refine r_getR hK d_X11_lay_126 fl_RX11_44_10 rfl kd_0 ?_
    refine r_ref (b := 13) R0_0_5 ?_
    refine r_iload_n hK d_X11_lay_129 rfl rfl ?_
    refine r_iload hK d_X11_lay_130 rfl ?_
    refine r_iconst hK d_X11_lay_132 ci_2 ?_
    obtain ⟨v29, u28, e27, hD⟩ := bd_e hD
    refine r_callV (As := [.int x3, .int x4, .int (2 : Int32)]) (st := [.int v26, .ref (a1 + 2 + 2 * Int32.toNatClampNeg x4)]) (stk2 := [.int v29, .int v26, .ref (a1 + 2 + 2 * Int32.toNatClampNeg x4)]) hK (C_X9_number kd_13 e27) d_X11_lay_133 mf_X9_number ml_RX11_150 im_X9_number rfl se_8_RX9_X9_number kd_13 rfl (Nat.le_of_ble_eq_true rfl) (by decide) ⟨Nat.zero_le _, Nat.zero_le _⟩ rfl rfl ?_
    refine r_iconst hK d_X11_lay_136 ci_1 ?_
    refine r_icmp_ne (tgt := 144) hK d_X11_lay_137 (by decide) (fun h30 => ?_) (fun h30 => ?_)
    · have hD := if_f hD h30
      refine r_iconst hK d_X11_lay_144 ci_0 ?_
      refine r_junk [true, true, true, true, true, false] (ls2 := [.ref 0, .ref a1, .int x2, .int x3, .int x4, gs_J]) rfl ?_
      exact T_X11_lay_145 hK hq15 hk1 ((ly_vh _ hk1 _ (inb_lt h2)).2) hD
    · have hD := if_t hD h30
      refine r_iconst hK d_X11_lay_140 ci_1 ?_
      refine r_goto (tgt := 145) hK d_X11_lay_141 (by decide) ?_
      refine r_junk [true, true, true, true, true, false] (ls2 := [.ref 0, .ref a1, .int x2, .int x3, .int x4, gs_J]) rfl ?_
      exact T_X11_lay_145 hK hq15 hk1 ((ly_vh _ hk1 _ (inb_lt h2)).2) hD
set_option maxRecDepth 20000 in
theorem TL_X11_lay_15  (hK : KC p R s m args meth c ad g tyc RX11 cX11_lay 6 none 5) {μ2 : gs_M}   : ∀ (n : Nat) (a1 : Nat) (x2 : Int32) (x3 : Int32) (x4 : Int32) (μ : gs_M), kd a1 = 9 → L_X11_lay_15  n a1 x2 x3 x4 μ = some μ2 → WJ p l e R s m args below meth c 0 0 (MQ below (gs_Q ad g tyc none μ2) args s 0 0 (gs_A ad)) ad g tyc 6 15 [.ref 0, .ref a1, .int x2, .int x3, .int x4, gs_J] [] μ := by
  intro n
  induction n with
  | zero => intro a1 x2 x3 x4 μ hk1 hD; cases hD
  | succ n ih => intro a1 x2 x3 x4 μ hk1 hD; exact To_X11_lay_15 hK  ih hk1 hD
set_option maxRecDepth 20000 in
theorem C_X11_lay  {a1 : Nat} {x2 : Int32} {x3 : Int32} {μ : gs_M} {μ2 : gs_M} (hk1 : kd a1 = 9) (hD : D_X11_lay a1 x2 x3 μ = some μ2) : CALL yX11_lay cX11_lay 6 none 5 [.ref 0, .ref a1, .int x2, .int x3] μ none μ2 := by
  unfold D_X11_lay at hD
  refine gs_enter mf_X11_lay (Nat.le_of_ble_eq_true rfl) (ls := [.ref 0, .ref a1, .int x2, .int x3, gs_J, gs_J]) rfl (fun p l e R s m args below meth c ad g tyc hK => ?_)
  have hK : KC p R s m args meth c ad g tyc RX11 cX11_lay 6 none 5 := hK
  refine r_aload_n hK d_X11_lay_0 rfl rfl ?_
  refine r_aload_n hK d_X11_lay_1 rfl rfl ?_
  refine r_getR hK d_X11_lay_2 fl_RX11_41_10 rfl kd_0 ?_
  refine r_ref (b := 10) R0_0_4 ?_
  refine r_iload_n hK d_X11_lay_5 rfl rfl ?_
  obtain ⟨v3, u2, e1, hD⟩ := bd_e hD
  refine r_callV (As := [.int x2]) (st := [.ref a1]) (stk2 := [.int v3, .ref a1]) hK (C_X9_rowsOf kd_10 e1) d_X11_lay_6 mf_X9_rowsOf ml_RX11_154 im_X9_rowsOf rfl se_8_RX9_X9_rowsOf kd_10 rfl (Nat.le_of_ble_eq_true rfl) (by decide) ⟨Nat.zero_le _, Nat.zero_le _⟩ rfl rfl ?_
  obtain ⟨u5, e4, hD⟩ := bd0_e hD
  refine r_callV (As := [.int v3]) (st := []) (stk2 := []) hK (C_X10_startAnew hk1 e4) d_X11_lay_9 mf_X10_startAnew ml_RX11_178 im_X10_startAnew rfl se_9_RX10_X10_startAnew hk1 rfl (Nat.le_of_ble_eq_true rfl) (by decide) ⟨Nat.zero_le _, Nat.zero_le _⟩ rfl rfl ?_
  refine r_iconst hK d_X11_lay_12 ci_0 ?_
  refine r_istore hK d_X11_lay_13 (by decide) (ls2 := [.ref 0, .ref a1, .int x2, .int x3, .int (0 : Int32), gs_J]) rfl ?_
  exact TL_X11_lay_15 hK  _ _ _ _ _ _ hk1 hD
end S_X11_lay
theorem d_X11_load_0 : gd cX11_load 0 (.aload_n 0) 1 1 := ⟨by decide +kernel, rfl⟩
theorem d_X11_load_1 : gd cX11_load 1 (.iload_n 1) 1 2 := ⟨by decide +kernel, rfl⟩
theorem d_X11_load_2 : gd cX11_load 2 (.iload_n 2) 1 3 := ⟨by decide +kernel, rfl⟩
theorem d_X11_load_3 : gd cX11_load 3 (.invokevirtual 166) 3 6 := ⟨by decide +kernel, rfl⟩
theorem d_X11_load_6 : gd cX11_load 6 (.ifCond .ne 5) 3 9 := ⟨by decide +kernel, rfl⟩
theorem d_X11_load_9 : gd cX11_load 9 (.iconst 0) 1 10 := ⟨by decide +kernel, rfl⟩
theorem d_X11_load_10 : gd cX11_load 10 .ireturn 1 11 := ⟨by decide +kernel, rfl⟩
theorem d_X11_load_11 : gd cX11_load 11 (.aload_n 0) 1 12 := ⟨by decide +kernel, rfl⟩
theorem d_X11_load_12 : gd cX11_load 12 (.aload_n 0) 1 13 := ⟨by decide +kernel, rfl⟩
theorem d_X11_load_13 : gd cX11_load 13 (.getfield 66) 3 16 := ⟨by decide +kernel, rfl⟩
theorem d_X11_load_16 : gd cX11_load 16 (.iload_n 1) 1 17 := ⟨by decide +kernel, rfl⟩
theorem d_X11_load_17 : gd cX11_load 17 (.iload_n 2) 1 18 := ⟨by decide +kernel, rfl⟩
theorem d_X11_load_18 : gd cX11_load 18 (.invokevirtual 170) 3 21 := ⟨by decide +kernel, rfl⟩
theorem d_X11_load_21 : gd cX11_load 21 (.aload_n 0) 1 22 := ⟨by decide +kernel, rfl⟩
theorem d_X11_load_22 : gd cX11_load 22 (.getfield 66) 3 25 := ⟨by decide +kernel, rfl⟩
theorem d_X11_load_25 : gd cX11_load 25 (.lload_n 3) 1 26 := ⟨by decide +kernel, rfl⟩
theorem d_X11_load_26 : gd cX11_load 26 (.putfield 174) 3 29 := ⟨by decide +kernel, rfl⟩
theorem d_X11_load_29 : gd cX11_load 29 (.iconst 1) 1 30 := ⟨by decide +kernel, rfl⟩
theorem d_X11_load_30 : gd cX11_load 30 .ireturn 1 31 := ⟨by decide +kernel, rfl⟩
def D_X11_load (x1 : Int32) (x2 : Int32) (z3 : Int64) (μ : gs_M) : Option (Int32 × gs_M) :=
  bd (D_X11_canLoad x1 x2 μ) (fun v3 u2 => if v3 = 0 then (some ((0 : Int32), u2)) else (bd0 (D_X11_lay 26 x1 x2 u2) (fun u6 => lt1 (sL u6 26 5 z3) (fun u7 => some ((1 : Int32), u7)))))
section S_X11_load
variable {p : Program} {l : Launch} {e : Env} {R : Room} {s : State} {m : MethodId} {args : Array Value} {below : List Frame} {meth : Method} {c : Code} {ad : Nat → Nat} {g : va_G} {tyc : Nat → ClassId}
set_option maxRecDepth 20000 in
theorem C_X11_load  {x1 : Int32} {x2 : Int32} {z3 : Int64} {μ : gs_M} {r : Int32} {μ2 : gs_M}  (hD : D_X11_load x1 x2 z3 μ = some (r, μ2)) : CALL yX11_load cX11_load 5 (some .boolean) 6 [.ref 0, .int x1, .int x2, .long z3] μ (some (.int r)) μ2 := by
  unfold D_X11_load at hD
  refine gs_enter mf_X11_load (Nat.le_of_ble_eq_true rfl) (ls := [.ref 0, .int x1, .int x2, .long z3, gs_J]) rfl (fun p l e R s m args below meth c ad g tyc hK => ?_)
  have hK : KC p R s m args meth c ad g tyc RX11 cX11_load 5 (some .boolean) 6 := hK
  refine r_aload_n hK d_X11_load_0 rfl rfl ?_
  refine r_iload_n hK d_X11_load_1 rfl rfl ?_
  refine r_iload_n hK d_X11_load_2 rfl rfl ?_
  obtain ⟨v3, u2, e1, hD⟩ := bd_e hD
  refine r_callV (As := [.int x1, .int x2]) (st := []) (stk2 := [.int v3]) hK (C_X11_canLoad  e1) d_X11_load_3 mf_X11_canLoad ml_RX11_166 im_X11_canLoad rfl se_10_RX11_X11_canLoad kd_0 rfl (Nat.le_of_ble_eq_true rfl) (by decide) ⟨Nat.zero_le _, Nat.zero_le _⟩ rfl rfl ?_
  refine r_if_ne (tgt := 11) hK d_X11_load_6 (by decide) (fun h4 => ?_) (fun h4 => ?_)
  · have hD := if_f hD h4
    refine r_aload_n hK d_X11_load_11 rfl rfl ?_
    refine r_aload_n hK d_X11_load_12 rfl rfl ?_
    refine r_getR hK d_X11_load_13 fl_RX11_66_10 rfl kd_0 ?_
    refine r_ref (b := 26) R0_0_8 ?_
    refine r_iload_n hK d_X11_load_16 rfl rfl ?_
    refine r_iload_n hK d_X11_load_17 rfl rfl ?_
    obtain ⟨u6, e5, hD⟩ := bd0_e hD
    refine r_callV (As := [.ref 26, .int x1, .int x2]) (st := []) (stk2 := []) hK (C_X11_lay kd_26 e5) d_X11_load_18 mf_X11_lay ml_RX11_170 im_X11_lay rfl se_10_RX11_X11_lay kd_0 rfl (Nat.le_of_ble_eq_true rfl) (by decide) ⟨Nat.zero_le _, Nat.zero_le _⟩ rfl rfl ?_
    refine r_aload_n hK d_X11_load_21 rfl rfl ?_
    refine r_getR hK d_X11_load_22 fl_RX11_66_10 rfl kd_0 ?_
    refine r_ref (b := 26) R0_0_8 ?_
    refine r_lload_n hK d_X11_load_25 rfl rfl ?_
    refine r_putL hK d_X11_load_26 fl_RX11_174_9 rfl rfl kd_26 ?_
    refine r_ltm hD (fun u7 hD => ?_)
    refine r_iconst hK d_X11_load_29 ci_1 ?_
    cases hD
    exact r_zret hK (Or.inr rfl) d_X11_load_30
  · have hD := if_t hD h4
    refine r_iconst hK d_X11_load_9 ci_0 ?_
    cases hD
    exact r_zret hK (Or.inl rfl) d_X11_load_10
end S_X11_load
theorem d_X11_isReady_0 : gd cX11_isReady 0 (.aload_n 0) 1 1 := ⟨by decide +kernel, rfl⟩
theorem d_X11_isReady_1 : gd cX11_isReady 1 (.getfield 66) 3 4 := ⟨by decide +kernel, rfl⟩
theorem d_X11_isReady_4 : gd cX11_isReady 4 (.invokevirtual 253) 3 7 := ⟨by decide +kernel, rfl⟩
theorem d_X11_isReady_7 : gd cX11_isReady 7 (.ifCond .eq 17) 3 10 := ⟨by decide +kernel, rfl⟩
theorem d_X11_isReady_10 : gd cX11_isReady 10 (.aload_n 0) 1 11 := ⟨by decide +kernel, rfl⟩
theorem d_X11_isReady_11 : gd cX11_isReady 11 (.getfield 66) 3 14 := ⟨by decide +kernel, rfl⟩
theorem d_X11_isReady_14 : gd cX11_isReady 14 (.getfield 262) 3 17 := ⟨by decide +kernel, rfl⟩
theorem d_X11_isReady_17 : gd cX11_isReady 17 (.ifCond .ne 7) 3 20 := ⟨by decide +kernel, rfl⟩
theorem d_X11_isReady_20 : gd cX11_isReady 20 (.iconst 1) 1 21 := ⟨by decide +kernel, rfl⟩
theorem d_X11_isReady_21 : gd cX11_isReady 21 (.goto 4) 3 24 := ⟨by decide +kernel, rfl⟩
theorem d_X11_isReady_24 : gd cX11_isReady 24 (.iconst 0) 1 25 := ⟨by decide +kernel, rfl⟩
theorem d_X11_isReady_25 : gd cX11_isReady 25 .ireturn 1 26 := ⟨by decide +kernel, rfl⟩
def B_X11_isReady_24   (μ : gs_M) : Option (Int32 × gs_M) :=
  some ((0 : Int32), μ)
def D_X11_isReady  (μ : gs_M) : Option (Int32 × gs_M) :=
  bd (D_X10_isLoaded 26 μ) (fun v3 u2 => if v3 = 0 then (B_X11_isReady_24 u2) else (if (gI u2 26 4) = 0 then (some ((1 : Int32), u2)) else (B_X11_isReady_24 u2)))
section S_X11_isReady
variable {p : Program} {l : Launch} {e : Env} {R : Room} {s : State} {m : MethodId} {args : Array Value} {below : List Frame} {meth : Method} {c : Code} {ad : Nat → Nat} {g : va_G} {tyc : Nat → ClassId}
set_option maxRecDepth 20000 in
theorem T_X11_isReady_24  (hK : KC p R s m args meth c ad g tyc RX11 cX11_isReady 1 (some .boolean) 1) {r : Int32} {μ2 : gs_M}    {μ : gs_M}  (hD : B_X11_isReady_24   μ = some (r, μ2)) : WJ p l e R s m args below meth c 0 0 (MQ below (gs_Q ad g tyc (some (.int r)) μ2) args s 0 0 (gs_A ad)) ad g tyc 1 24 [gs_J] [] μ := by
  unfold B_X11_isReady_24 at hD
  refine r_iconst hK d_X11_isReady_24 ci_0 ?_
  cases hD
  exact r_zret hK (Or.inl rfl) d_X11_isReady_25
set_option maxRecDepth 20000 in
theorem C_X11_isReady   {μ : gs_M} {r : Int32} {μ2 : gs_M}  (hD : D_X11_isReady  μ = some (r, μ2)) : CALL yX11_isReady cX11_isReady 1 (some .boolean) 1 [.ref 0] μ (some (.int r)) μ2 := by
  unfold D_X11_isReady at hD
  refine gs_enter mf_X11_isReady (Nat.le_of_ble_eq_true rfl) (ls := [.ref 0]) rfl (fun p l e R s m args below meth c ad g tyc hK => ?_)
  have hK : KC p R s m args meth c ad g tyc RX11 cX11_isReady 1 (some .boolean) 1 := hK
  refine r_aload_n hK d_X11_isReady_0 rfl rfl ?_
  refine r_getR hK d_X11_isReady_1 fl_RX11_66_10 rfl kd_0 ?_
  refine r_ref (b := 26) R0_0_8 ?_
  obtain ⟨v3, u2, e1, hD⟩ := bd_e hD
  refine r_callV (As := []) (st := []) (stk2 := [.int v3]) hK (C_X10_isLoaded kd_26 e1) d_X11_isReady_4 mf_X10_isLoaded ml_RX11_253 im_X10_isLoaded rfl se_9_RX10_X10_isLoaded kd_26 rfl (Nat.le_of_ble_eq_true rfl) (by decide) ⟨Nat.zero_le _, Nat.zero_le _⟩ rfl rfl ?_
  refine r_if_eq (tgt := 24) hK d_X11_isReady_7 (by decide) (fun h4 => ?_) (fun h4 => ?_)
  · have hD := if_t hD h4
    refine r_junk [false] (ls2 := [gs_J]) rfl ?_
    exact T_X11_isReady_24 hK   hD
  · have hD := if_f hD h4
    refine r_aload_n hK d_X11_isReady_10 rfl rfl ?_
    refine r_getR hK d_X11_isReady_11 fl_RX11_66_10 rfl kd_0 ?_
    refine r_ref (b := 26) R0_0_8 ?_
    refine r_getZ hK d_X11_isReady_14 fl_RX11_262_9 rfl kd_26 ?_
    refine r_if_ne (tgt := 24) hK d_X11_isReady_17 (by decide) (fun h5 => ?_) (fun h5 => ?_)
    · have hD := if_f hD h5
      refine r_junk [false] (ls2 := [gs_J]) rfl ?_
      exact T_X11_isReady_24 hK   hD
    · have hD := if_t hD h5
      refine r_iconst hK d_X11_isReady_20 ci_1 ?_
      refine r_goto (tgt := 25) hK d_X11_isReady_21 (by decide) ?_
      cases hD
      exact r_zret hK (Or.inr rfl) d_X11_isReady_25
end S_X11_isReady
theorem d_X11_roll_0 : gd cX11_roll 0 (.aload_n 0) 1 1 := ⟨by decide +kernel, rfl⟩
theorem d_X11_roll_1 : gd cX11_roll 1 (.invokevirtual 206) 3 4 := ⟨by decide +kernel, rfl⟩
theorem d_X11_roll_4 : gd cX11_roll 4 (.ifCond .eq 24) 3 7 := ⟨by decide +kernel, rfl⟩
theorem d_X11_roll_7 : gd cX11_roll 7 (.iload_n 1) 1 8 := ⟨by decide +kernel, rfl⟩
theorem d_X11_roll_8 : gd cX11_roll 8 (.iconst 0) 1 9 := ⟨by decide +kernel, rfl⟩
theorem d_X11_roll_9 : gd cX11_roll 9 (.bipush 40) 2 11 := ⟨by decide +kernel, rfl⟩
theorem d_X11_roll_11 : gd cX11_roll 11 (.invokestatic 123) 3 14 := ⟨by decide +kernel, rfl⟩
theorem d_X11_roll_14 : gd cX11_roll 14 (.ifCond .eq 14) 3 17 := ⟨by decide +kernel, rfl⟩
theorem d_X11_roll_17 : gd cX11_roll 17 (.aload_n 0) 1 18 := ⟨by decide +kernel, rfl⟩
theorem d_X11_roll_18 : gd cX11_roll 18 (.getfield 66) 3 21 := ⟨by decide +kernel, rfl⟩
theorem d_X11_roll_21 : gd cX11_roll 21 (.iload_n 1) 1 22 := ⟨by decide +kernel, rfl⟩
theorem d_X11_roll_22 : gd cX11_roll 22 (.invokevirtual 210) 3 25 := ⟨by decide +kernel, rfl⟩
theorem d_X11_roll_25 : gd cX11_roll 25 (.goto 4) 3 28 := ⟨by decide +kernel, rfl⟩
theorem d_X11_roll_28 : gd cX11_roll 28 (.iconst (-1)) 1 29 := ⟨by decide +kernel, rfl⟩
theorem d_X11_roll_29 : gd cX11_roll 29 .ireturn 1 30 := ⟨by decide +kernel, rfl⟩
def B_X11_roll_28   (μ : gs_M) : Option (Int32 × gs_M) :=
  some ((-1 : Int32), μ)
def D_X11_roll (x1 : Int32) (μ : gs_M) : Option (Int32 × gs_M) :=
  bd (D_X11_isReady μ) (fun v3 u2 => if v3 = 0 then (B_X11_roll_28 u2) else (bd (D_X11_within x1 (0 : Int32) (40 : Int32) u2) (fun v7 u6 => if v7 = 0 then (B_X11_roll_28 u6) else (bd (D_X10_rollBy 26 x1 u6) (fun v11 u10 => some (v11, u10))))))
section S_X11_roll
variable {p : Program} {l : Launch} {e : Env} {R : Room} {s : State} {m : MethodId} {args : Array Value} {below : List Frame} {meth : Method} {c : Code} {ad : Nat → Nat} {g : va_G} {tyc : Nat → ClassId}
set_option maxRecDepth 20000 in
theorem T_X11_roll_28  (hK : KC p R s m args meth c ad g tyc RX11 cX11_roll 2 (some .int) 5) {r : Int32} {μ2 : gs_M}    {μ : gs_M}  (hD : B_X11_roll_28   μ = some (r, μ2)) : WJ p l e R s m args below meth c 0 0 (MQ below (gs_Q ad g tyc (some (.int r)) μ2) args s 0 0 (gs_A ad)) ad g tyc 2 28 [gs_J, gs_J] [] μ := by
  unfold B_X11_roll_28 at hD
  refine r_iconst hK d_X11_roll_28 ci_m1 ?_
  cases hD
  exact r_iret hK d_X11_roll_29
set_option maxRecDepth 20000 in
theorem C_X11_roll  {x1 : Int32} {μ : gs_M} {r : Int32} {μ2 : gs_M}  (hD : D_X11_roll x1 μ = some (r, μ2)) : CALL yX11_roll cX11_roll 2 (some .int) 5 [.ref 0, .int x1] μ (some (.int r)) μ2 := by
  unfold D_X11_roll at hD
  refine gs_enter mf_X11_roll (Nat.le_of_ble_eq_true rfl) (ls := [.ref 0, .int x1]) rfl (fun p l e R s m args below meth c ad g tyc hK => ?_)
  have hK : KC p R s m args meth c ad g tyc RX11 cX11_roll 2 (some .int) 5 := hK
  refine r_aload_n hK d_X11_roll_0 rfl rfl ?_
  obtain ⟨v3, u2, e1, hD⟩ := bd_e hD
  refine r_callV (As := []) (st := []) (stk2 := [.int v3]) hK (C_X11_isReady  e1) d_X11_roll_1 mf_X11_isReady ml_RX11_206 im_X11_isReady rfl se_10_RX11_X11_isReady kd_0 rfl (Nat.le_of_ble_eq_true rfl) (by decide) ⟨Nat.zero_le _, Nat.zero_le _⟩ rfl rfl ?_
  refine r_if_eq (tgt := 28) hK d_X11_roll_4 (by decide) (fun h4 => ?_) (fun h4 => ?_)
  · have hD := if_t hD h4
    refine r_junk [false, false] (ls2 := [gs_J, gs_J]) rfl ?_
    exact T_X11_roll_28 hK   hD
  · have hD := if_f hD h4
    refine r_iload_n hK d_X11_roll_7 rfl rfl ?_
    refine r_iconst hK d_X11_roll_8 ci_0 ?_
    refine r_bipush hK d_X11_roll_9 cb_40 ?_
    obtain ⟨v7, u6, e5, hD⟩ := bd_e hD
    refine r_callS (As := [.int x1, .int (0 : Int32), .int (40 : Int32)]) (st := []) (stk2 := [.int v7]) hK (C_X11_within  e5) d_X11_roll_11 mf_X11_within ml_RX11_123 ss_X11_within rfl (Nat.le_of_ble_eq_true rfl) (by decide) ⟨Nat.zero_le _, Nat.zero_le _⟩ rfl rfl ?_
    refine r_if_eq (tgt := 28) hK d_X11_roll_14 (by decide) (fun h8 => ?_) (fun h8 => ?_)
    · have hD := if_t hD h8
      refine r_junk [false, false] (ls2 := [gs_J, gs_J]) rfl ?_
      exact T_X11_roll_28 hK   hD
    · have hD := if_f hD h8
      refine r_aload_n hK d_X11_roll_17 rfl rfl ?_
      refine r_getR hK d_X11_roll_18 fl_RX11_66_10 rfl kd_0 ?_
      refine r_ref (b := 26) R0_0_8 ?_
      refine r_iload_n hK d_X11_roll_21 rfl rfl ?_
      obtain ⟨v11, u10, e9, hD⟩ := bd_e hD
      refine r_callV (As := [.int x1]) (st := []) (stk2 := [.int v11]) hK (C_X10_rollBy kd_26 e9) d_X11_roll_22 mf_X10_rollBy ml_RX11_210 im_X10_rollBy rfl se_9_RX10_X10_rollBy kd_26 rfl (Nat.le_of_ble_eq_true rfl) (by decide) ⟨Nat.zero_le _, Nat.zero_le _⟩ rfl rfl ?_
      refine r_goto (tgt := 29) hK d_X11_roll_25 (by decide) ?_
      cases hD
      exact r_iret hK d_X11_roll_29
end S_X11_roll
theorem d_X11_day_0 : gd cX11_day 0 (.aload_n 0) 1 1 := ⟨by decide +kernel, rfl⟩
theorem d_X11_day_1 : gd cX11_day 1 (.invokevirtual 206) 3 4 := ⟨by decide +kernel, rfl⟩
theorem d_X11_day_4 : gd cX11_day 4 (.ifCond .eq 13) 3 7 := ⟨by decide +kernel, rfl⟩
theorem d_X11_day_7 : gd cX11_day 7 (.iload_n 1) 1 8 := ⟨by decide +kernel, rfl⟩
theorem d_X11_day_8 : gd cX11_day 8 (.iconst 0) 1 9 := ⟨by decide +kernel, rfl⟩
theorem d_X11_day_9 : gd cX11_day 9 (.bipush 30) 2 11 := ⟨by decide +kernel, rfl⟩
theorem d_X11_day_11 : gd cX11_day 11 (.invokestatic 123) 3 14 := ⟨by decide +kernel, rfl⟩
theorem d_X11_day_14 : gd cX11_day 14 (.ifCond .ne 5) 3 17 := ⟨by decide +kernel, rfl⟩
theorem d_X11_day_17 : gd cX11_day 17 (.iconst (-1)) 1 18 := ⟨by decide +kernel, rfl⟩
theorem d_X11_day_18 : gd cX11_day 18 .ireturn 1 19 := ⟨by decide +kernel, rfl⟩
theorem d_X11_day_19 : gd cX11_day 19 (.aload_n 0) 1 20 := ⟨by decide +kernel, rfl⟩
theorem d_X11_day_20 : gd cX11_day 20 (.getfield 66) 3 23 := ⟨by decide +kernel, rfl⟩
theorem d_X11_day_23 : gd cX11_day 23 (.iload_n 1) 1 24 := ⟨by decide +kernel, rfl⟩
theorem d_X11_day_24 : gd cX11_day 24 (.iconst 1) 1 25 := ⟨by decide +kernel, rfl⟩
theorem d_X11_day_25 : gd cX11_day 25 (.invokevirtual 213) 3 28 := ⟨by decide +kernel, rfl⟩
theorem d_X11_day_28 : gd cX11_day 28 (.aload_n 0) 1 29 := ⟨by decide +kernel, rfl⟩
theorem d_X11_day_29 : gd cX11_day 29 (.getfield 66) 3 32 := ⟨by decide +kernel, rfl⟩
theorem d_X11_day_32 : gd cX11_day 32 (.getfield 216) 3 35 := ⟨by decide +kernel, rfl⟩
theorem d_X11_day_35 : gd cX11_day 35 .ireturn 1 36 := ⟨by decide +kernel, rfl⟩
def D_X11_day (x1 : Int32) (μ : gs_M) : Option (Int32 × gs_M) :=
  bd (D_X11_isReady μ) (fun v3 u2 => if v3 = 0 then (some ((-1 : Int32), u2)) else (bd (D_X11_within x1 (0 : Int32) (30 : Int32) u2) (fun v7 u6 => if v7 = 0 then (some ((-1 : Int32), u6)) else (bd0 (D_X10_sail 26 x1 (1 : Int32) u6) (fun u10 => some (gI u10 26 3, u10))))))
section S_X11_day
variable {p : Program} {l : Launch} {e : Env} {R : Room} {s : State} {m : MethodId} {args : Array Value} {below : List Frame} {meth : Method} {c : Code} {ad : Nat → Nat} {g : va_G} {tyc : Nat → ClassId}
set_option maxRecDepth 20000 in
theorem C_X11_day  {x1 : Int32} {μ : gs_M} {r : Int32} {μ2 : gs_M}  (hD : D_X11_day x1 μ = some (r, μ2)) : CALL yX11_day cX11_day 2 (some .int) 6 [.ref 0, .int x1] μ (some (.int r)) μ2 := by
  unfold D_X11_day at hD
  refine gs_enter mf_X11_day (Nat.le_of_ble_eq_true rfl) (ls := [.ref 0, .int x1]) rfl (fun p l e R s m args below meth c ad g tyc hK => ?_)
  have hK : KC p R s m args meth c ad g tyc RX11 cX11_day 2 (some .int) 6 := hK
  refine r_aload_n hK d_X11_day_0 rfl rfl ?_
  obtain ⟨v3, u2, e1, hD⟩ := bd_e hD
  refine r_callV (As := []) (st := []) (stk2 := [.int v3]) hK (C_X11_isReady  e1) d_X11_day_1 mf_X11_isReady ml_RX11_206 im_X11_isReady rfl se_10_RX11_X11_isReady kd_0 rfl (Nat.le_of_ble_eq_true rfl) (by decide) ⟨Nat.zero_le _, Nat.zero_le _⟩ rfl rfl ?_
  refine r_if_eq (tgt := 17) hK d_X11_day_4 (by decide) (fun h4 => ?_) (fun h4 => ?_)
  · have hD := if_t hD h4
    refine r_iconst hK d_X11_day_17 ci_m1 ?_
    cases hD
    exact r_iret hK d_X11_day_18
  · have hD := if_f hD h4
    refine r_iload_n hK d_X11_day_7 rfl rfl ?_
    refine r_iconst hK d_X11_day_8 ci_0 ?_
    refine r_bipush hK d_X11_day_9 cb_30 ?_
    obtain ⟨v7, u6, e5, hD⟩ := bd_e hD
    refine r_callS (As := [.int x1, .int (0 : Int32), .int (30 : Int32)]) (st := []) (stk2 := [.int v7]) hK (C_X11_within  e5) d_X11_day_11 mf_X11_within ml_RX11_123 ss_X11_within rfl (Nat.le_of_ble_eq_true rfl) (by decide) ⟨Nat.zero_le _, Nat.zero_le _⟩ rfl rfl ?_
    refine r_if_ne (tgt := 19) hK d_X11_day_14 (by decide) (fun h8 => ?_) (fun h8 => ?_)
    · have hD := if_f hD h8
      refine r_aload_n hK d_X11_day_19 rfl rfl ?_
      refine r_getR hK d_X11_day_20 fl_RX11_66_10 rfl kd_0 ?_
      refine r_ref (b := 26) R0_0_8 ?_
      refine r_iload_n hK d_X11_day_23 rfl rfl ?_
      refine r_iconst hK d_X11_day_24 ci_1 ?_
      obtain ⟨u10, e9, hD⟩ := bd0_e hD
      refine r_callV (As := [.int x1, .int (1 : Int32)]) (st := []) (stk2 := []) hK (C_X10_sail kd_26 e9) d_X11_day_25 mf_X10_sail ml_RX11_213 im_X10_sail rfl se_9_RX10_X10_sail kd_26 rfl (Nat.le_of_ble_eq_true rfl) (by decide) ⟨Nat.zero_le _, Nat.zero_le _⟩ rfl rfl ?_
      refine r_aload_n hK d_X11_day_28 rfl rfl ?_
      refine r_getR hK d_X11_day_29 fl_RX11_66_10 rfl kd_0 ?_
      refine r_ref (b := 26) R0_0_8 ?_
      refine r_getI hK d_X11_day_32 fl_RX11_216_9 rfl kd_26 ?_
      cases hD
      exact r_iret hK d_X11_day_35
    · have hD := if_t hD h8
      refine r_iconst hK d_X11_day_17 ci_m1 ?_
      cases hD
      exact r_iret hK d_X11_day_18
end S_X11_day
theorem d_X11_column_0 : gd cX11_column 0 (.aload_n 0) 1 1 := ⟨by decide +kernel, rfl⟩
theorem d_X11_column_1 : gd cX11_column 1 (.getfield 66) 3 4 := ⟨by decide +kernel, rfl⟩
theorem d_X11_column_4 : gd cX11_column 4 (.iload_n 1) 1 5 := ⟨by decide +kernel, rfl⟩
theorem d_X11_column_5 : gd cX11_column 5 (.iload_n 2) 1 6 := ⟨by decide +kernel, rfl⟩
theorem d_X11_column_6 : gd cX11_column 6 (.invokevirtual 219) 3 9 := ⟨by decide +kernel, rfl⟩
theorem d_X11_column_9 : gd cX11_column 9 (.ifCond .ne 5) 3 12 := ⟨by decide +kernel, rfl⟩
theorem d_X11_column_12 : gd cX11_column 12 (.iconst (-1)) 1 13 := ⟨by decide +kernel, rfl⟩
theorem d_X11_column_13 : gd cX11_column 13 .ireturn 1 14 := ⟨by decide +kernel, rfl⟩
theorem d_X11_column_14 : gd cX11_column 14 (.aload_n 0) 1 15 := ⟨by decide +kernel, rfl⟩
theorem d_X11_column_15 : gd cX11_column 15 (.getfield 66) 3 18 := ⟨by decide +kernel, rfl⟩
theorem d_X11_column_18 : gd cX11_column 18 (.getfield 182) 3 21 := ⟨by decide +kernel, rfl⟩
theorem d_X11_column_21 : gd cX11_column 21 (.iload_n 1) 1 22 := ⟨by decide +kernel, rfl⟩
theorem d_X11_column_22 : gd cX11_column 22 .aaload 1 23 := ⟨by decide +kernel, rfl⟩
theorem d_X11_column_23 : gd cX11_column 23 (.astore 4) 2 25 := ⟨by decide +kernel, rfl⟩
theorem d_X11_column_25 : gd cX11_column 25 (.iload_n 3) 1 26 := ⟨by decide +kernel, rfl⟩
theorem d_X11_column_26 : gd cX11_column 26 (.ifCond .ne 13) 3 29 := ⟨by decide +kernel, rfl⟩
theorem d_X11_column_29 : gd cX11_column 29 (.aload 4) 2 31 := ⟨by decide +kernel, rfl⟩
theorem d_X11_column_31 : gd cX11_column 31 (.getfield 222) 3 34 := ⟨by decide +kernel, rfl⟩
theorem d_X11_column_34 : gd cX11_column 34 (.iload_n 2) 1 35 := ⟨by decide +kernel, rfl⟩
theorem d_X11_column_35 : gd cX11_column 35 .iaload 1 36 := ⟨by decide +kernel, rfl⟩
theorem d_X11_column_36 : gd cX11_column 36 (.goto 18) 3 39 := ⟨by decide +kernel, rfl⟩
theorem d_X11_column_39 : gd cX11_column 39 (.iload_n 3) 1 40 := ⟨by decide +kernel, rfl⟩
theorem d_X11_column_40 : gd cX11_column 40 (.iconst 1) 1 41 := ⟨by decide +kernel, rfl⟩
theorem d_X11_column_41 : gd cX11_column 41 (.if_icmp .ne 12) 3 44 := ⟨by decide +kernel, rfl⟩
theorem d_X11_column_44 : gd cX11_column 44 (.aload 4) 2 46 := ⟨by decide +kernel, rfl⟩
theorem d_X11_column_46 : gd cX11_column 46 (.iload_n 2) 1 47 := ⟨by decide +kernel, rfl⟩
theorem d_X11_column_47 : gd cX11_column 47 (.invokevirtual 225) 3 50 := ⟨by decide +kernel, rfl⟩
theorem d_X11_column_50 : gd cX11_column 50 (.goto 4) 3 53 := ⟨by decide +kernel, rfl⟩
theorem d_X11_column_53 : gd cX11_column 53 (.iconst (-1)) 1 54 := ⟨by decide +kernel, rfl⟩
theorem d_X11_column_54 : gd cX11_column 54 .ireturn 1 55 := ⟨by decide +kernel, rfl⟩
def D_X11_column (x1 : Int32) (x2 : Int32) (x3 : Int32) (μ : gs_M) : Option (Int32 × gs_M) :=
  bd (D_X10_hasColumn 26 x1 x2 μ) (fun v3 u2 => if v3 = 0 then (some ((-1 : Int32), u2)) else (ck (inb x1 4) (if x3 = 0 then (ck (inb x2 12) (some (gI u2 ((26 + 2 + 2 * Int32.toNatClampNeg x1) + 1) (Int32.toNatClampNeg x2), u2))) else (if x3 = (1 : Int32) then (bd (D_X1_tall (26 + 2 + 2 * Int32.toNatClampNeg x1) x2 u2) (fun v10 u9 => some (v10, u9))) else (some ((-1 : Int32), u2))))))
section S_X11_column
variable {p : Program} {l : Launch} {e : Env} {R : Room} {s : State} {m : MethodId} {args : Array Value} {below : List Frame} {meth : Method} {c : Code} {ad : Nat → Nat} {g : va_G} {tyc : Nat → ClassId}
set_option maxRecDepth 20000 in
theorem C_X11_column  {x1 : Int32} {x2 : Int32} {x3 : Int32} {μ : gs_M} {r : Int32} {μ2 : gs_M}  (hD : D_X11_column x1 x2 x3 μ = some (r, μ2)) : CALL yX11_column cX11_column 5 (some .int) 2 [.ref 0, .int x1, .int x2, .int x3] μ (some (.int r)) μ2 := by
  unfold D_X11_column at hD
  refine gs_enter mf_X11_column (Nat.le_of_ble_eq_true rfl) (ls := [.ref 0, .int x1, .int x2, .int x3, gs_J]) rfl (fun p l e R s m args below meth c ad g tyc hK => ?_)
  have hK : KC p R s m args meth c ad g tyc RX11 cX11_column 5 (some .int) 2 := hK
  refine r_aload_n hK d_X11_column_0 rfl rfl ?_
  refine r_getR hK d_X11_column_1 fl_RX11_66_10 rfl kd_0 ?_
  refine r_ref (b := 26) R0_0_8 ?_
  refine r_iload_n hK d_X11_column_4 rfl rfl ?_
  refine r_iload_n hK d_X11_column_5 rfl rfl ?_
  obtain ⟨v3, u2, e1, hD⟩ := bd_e hD
  refine r_callV (As := [.int x1, .int x2]) (st := []) (stk2 := [.int v3]) hK (C_X10_hasColumn kd_26 e1) d_X11_column_6 mf_X10_hasColumn ml_RX11_219 im_X10_hasColumn rfl se_9_RX10_X10_hasColumn kd_26 rfl (Nat.le_of_ble_eq_true rfl) (by decide) ⟨Nat.zero_le _, Nat.zero_le _⟩ rfl rfl ?_
  refine r_if_ne (tgt := 14) hK d_X11_column_9 (by decide) (fun h4 => ?_) (fun h4 => ?_)
  · have hD := if_f hD h4
    refine r_aload_n hK d_X11_column_14 rfl rfl ?_
    refine r_getR hK d_X11_column_15 fl_RX11_66_10 rfl kd_0 ?_
    refine r_ref (b := 26) R0_0_8 ?_
    refine r_getR hK d_X11_column_18 fl_RX11_182_9 rfl kd_26 ?_
    refine r_ref (b := (26 + 1)) ((ly_ves _ kd_26).1.1) ?_
    refine r_iload_n hK d_X11_column_21 rfl rfl ?_
    obtain ⟨h5, hD⟩ := ck_e hD
    refine r_aaldH hK d_X11_column_22 ((ly_ves _ kd_26).1.2.1) ((ly_ves _ kd_26).1.2.2) (inb_in h5) ?_
    refine r_ref (b := (26 + 2 + 2 * Int32.toNatClampNeg x1)) ((ly_vh _ kd_26 _ (inb_lt h5)).1) ?_
    refine r_astore hK d_X11_column_23 (by decide) (ls2 := [.ref 0, .int x1, .int x2, .int x3, .ref (26 + 2 + 2 * Int32.toNatClampNeg x1)]) rfl ?_
    refine r_iload_n hK d_X11_column_25 rfl rfl ?_
    refine r_if_ne (tgt := 39) hK d_X11_column_26 (by decide) (fun h6 => ?_) (fun h6 => ?_)
    · have hD := if_f hD h6
      refine r_iload_n hK d_X11_column_39 rfl rfl ?_
      refine r_iconst hK d_X11_column_40 ci_1 ?_
      refine r_icmp_ne (tgt := 53) hK d_X11_column_41 (by decide) (fun h7 => ?_) (fun h7 => ?_)
      · have hD := if_f hD h7
        refine r_iconst hK d_X11_column_53 ci_m1 ?_
        cases hD
        exact r_iret hK d_X11_column_54
      · have hD := if_t hD h7
        refine r_aload hK d_X11_column_44 rfl ?_
        refine r_iload_n hK d_X11_column_46 rfl rfl ?_
        obtain ⟨v10, u9, e8, hD⟩ := bd_e hD
        refine r_callV (As := [.int x2]) (st := []) (stk2 := [.int v10]) hK (C_X1_tall ((ly_vh _ kd_26 _ (inb_lt h5)).2) e8) d_X11_column_47 mf_X1_tall ml_RX11_225 im_X1_tall rfl se_1_RX1_X1_tall ((ly_vh _ kd_26 _ (inb_lt h5)).2) rfl (Nat.le_of_ble_eq_true rfl) (by decide) ⟨Nat.zero_le _, Nat.zero_le _⟩ rfl rfl ?_
        refine r_goto (tgt := 54) hK d_X11_column_50 (by decide) ?_
        cases hD
        exact r_iret hK d_X11_column_54
    · have hD := if_t hD h6
      refine r_aload hK d_X11_column_29 rfl ?_
      refine r_getR hK d_X11_column_31 fl_RX11_222_1 rfl ((ly_vh _ kd_26 _ (inb_lt h5)).2) ?_
      refine r_ref (b := ((26 + 2 + 2 * Int32.toNatClampNeg x1) + 1)) ((ly_hold _ (ly_vh _ kd_26 _ (inb_lt h5)).2).1) ?_
      refine r_iload_n hK d_X11_column_34 rfl rfl ?_
      obtain ⟨h11, hD⟩ := ck_e hD
      refine r_iald hK d_X11_column_35 ((ly_hold _ (ly_vh _ kd_26 _ (inb_lt h5)).2).2.1) ((ly_hold _ (ly_vh _ kd_26 _ (inb_lt h5)).2).2.2) (inb_in h11) ?_
      refine r_goto (tgt := 54) hK d_X11_column_36 (by decide) ?_
      cases hD
      exact r_iret hK d_X11_column_54
  · have hD := if_t hD h4
    refine r_iconst hK d_X11_column_12 ci_m1 ?_
    cases hD
    exact r_iret hK d_X11_column_13
end S_X11_column
theorem d_X11_hold_0 : gd cX11_hold 0 (.aload_n 0) 1 1 := ⟨by decide +kernel, rfl⟩
theorem d_X11_hold_1 : gd cX11_hold 1 (.getfield 66) 3 4 := ⟨by decide +kernel, rfl⟩
theorem d_X11_hold_4 : gd cX11_hold 4 (.iload_n 1) 1 5 := ⟨by decide +kernel, rfl⟩
theorem d_X11_hold_5 : gd cX11_hold 5 (.invokevirtual 228) 3 8 := ⟨by decide +kernel, rfl⟩
theorem d_X11_hold_8 : gd cX11_hold 8 (.ifCond .ne 6) 3 11 := ⟨by decide +kernel, rfl⟩
theorem d_X11_hold_11 : gd cX11_hold 11 (.ldc 231) 2 13 := ⟨by decide +kernel, rfl⟩
theorem d_X11_hold_13 : gd cX11_hold 13 .ireturn 1 14 := ⟨by decide +kernel, rfl⟩
theorem d_X11_hold_14 : gd cX11_hold 14 (.aload_n 0) 1 15 := ⟨by decide +kernel, rfl⟩
theorem d_X11_hold_15 : gd cX11_hold 15 (.getfield 66) 3 18 := ⟨by decide +kernel, rfl⟩
theorem d_X11_hold_18 : gd cX11_hold 18 (.getfield 182) 3 21 := ⟨by decide +kernel, rfl⟩
theorem d_X11_hold_21 : gd cX11_hold 21 (.iload_n 1) 1 22 := ⟨by decide +kernel, rfl⟩
theorem d_X11_hold_22 : gd cX11_hold 22 .aaload 1 23 := ⟨by decide +kernel, rfl⟩
theorem d_X11_hold_23 : gd cX11_hold 23 (.astore_n 3) 1 24 := ⟨by decide +kernel, rfl⟩
theorem d_X11_hold_24 : gd cX11_hold 24 (.iload_n 2) 1 25 := ⟨by decide +kernel, rfl⟩
theorem d_X11_hold_25 : gd cX11_hold 25 (.tableswitch 90 0 6 #[43, 48, 53, 58, 63, 80, 85]) 43 68 := ⟨by decide +kernel, rfl⟩
theorem d_X11_hold_68 : gd cX11_hold 68 (.aload_n 3) 1 69 := ⟨by decide +kernel, rfl⟩
theorem d_X11_hold_69 : gd cX11_hold 69 (.invokevirtual 232) 3 72 := ⟨by decide +kernel, rfl⟩
theorem d_X11_hold_72 : gd cX11_hold 72 .ireturn 1 73 := ⟨by decide +kernel, rfl⟩
theorem d_X11_hold_73 : gd cX11_hold 73 (.aload_n 3) 1 74 := ⟨by decide +kernel, rfl⟩
theorem d_X11_hold_74 : gd cX11_hold 74 (.invokevirtual 235) 3 77 := ⟨by decide +kernel, rfl⟩
theorem d_X11_hold_77 : gd cX11_hold 77 .ireturn 1 78 := ⟨by decide +kernel, rfl⟩
theorem d_X11_hold_78 : gd cX11_hold 78 (.aload_n 3) 1 79 := ⟨by decide +kernel, rfl⟩
theorem d_X11_hold_79 : gd cX11_hold 79 (.getfield 238) 3 82 := ⟨by decide +kernel, rfl⟩
theorem d_X11_hold_82 : gd cX11_hold 82 .ireturn 1 83 := ⟨by decide +kernel, rfl⟩
theorem d_X11_hold_83 : gd cX11_hold 83 (.aload_n 3) 1 84 := ⟨by decide +kernel, rfl⟩
theorem d_X11_hold_84 : gd cX11_hold 84 (.getfield 241) 3 87 := ⟨by decide +kernel, rfl⟩
theorem d_X11_hold_87 : gd cX11_hold 87 .ireturn 1 88 := ⟨by decide +kernel, rfl⟩
theorem d_X11_hold_88 : gd cX11_hold 88 (.aload_n 3) 1 89 := ⟨by decide +kernel, rfl⟩
theorem d_X11_hold_89 : gd cX11_hold 89 (.aload_n 3) 1 90 := ⟨by decide +kernel, rfl⟩
theorem d_X11_hold_90 : gd cX11_hold 90 (.getfield 241) 3 93 := ⟨by decide +kernel, rfl⟩
theorem d_X11_hold_93 : gd cX11_hold 93 (.invokevirtual 244) 3 96 := ⟨by decide +kernel, rfl⟩
theorem d_X11_hold_96 : gd cX11_hold 96 (.ifCond .eq 7) 3 99 := ⟨by decide +kernel, rfl⟩
theorem d_X11_hold_99 : gd cX11_hold 99 (.iconst 1) 1 100 := ⟨by decide +kernel, rfl⟩
theorem d_X11_hold_100 : gd cX11_hold 100 (.goto 4) 3 103 := ⟨by decide +kernel, rfl⟩
theorem d_X11_hold_103 : gd cX11_hold 103 (.iconst 0) 1 104 := ⟨by decide +kernel, rfl⟩
theorem d_X11_hold_104 : gd cX11_hold 104 .ireturn 1 105 := ⟨by decide +kernel, rfl⟩
theorem d_X11_hold_105 : gd cX11_hold 105 (.aload_n 3) 1 106 := ⟨by decide +kernel, rfl⟩
theorem d_X11_hold_106 : gd cX11_hold 106 (.invokevirtual 247) 3 109 := ⟨by decide +kernel, rfl⟩
theorem d_X11_hold_109 : gd cX11_hold 109 .ireturn 1 110 := ⟨by decide +kernel, rfl⟩
theorem d_X11_hold_110 : gd cX11_hold 110 (.aload_n 3) 1 111 := ⟨by decide +kernel, rfl⟩
theorem d_X11_hold_111 : gd cX11_hold 111 (.invokevirtual 250) 3 114 := ⟨by decide +kernel, rfl⟩
theorem d_X11_hold_114 : gd cX11_hold 114 .ireturn 1 115 := ⟨by decide +kernel, rfl⟩
theorem d_X11_hold_115 : gd cX11_hold 115 (.ldc 231) 2 117 := ⟨by decide +kernel, rfl⟩
theorem d_X11_hold_117 : gd cX11_hold 117 .ireturn 1 118 := ⟨by decide +kernel, rfl⟩
def D_X11_hold (x1 : Int32) (x2 : Int32) (μ : gs_M) : Option (Int32 × gs_M) :=
  bd (D_X10_hasHold 26 x1 μ) (fun v3 u2 => if v3 = 0 then (some ((-1000000 : Int32), u2)) else (ck (inb x1 4) (lt1 x2 (fun v6 => if v6 = (0 : Int32) then (bd (D_X1_allUnits (26 + 2 + 2 * Int32.toNatClampNeg x1) u2) (fun v10 u9 => some (v10, u9))) else (if v6 = (1 : Int32) then (bd (D_X1_moment (26 + 2 + 2 * Int32.toNatClampNeg x1) u2) (fun v14 u13 => some (v14, u13))) else (if v6 = (2 : Int32) then (some (gI u2 (26 + 2 + 2 * Int32.toNatClampNeg x1) 4, u2)) else (if v6 = (3 : Int32) then (some (gI u2 (26 + 2 + 2 * Int32.toNatClampNeg x1) 5, u2)) else (if v6 = (4 : Int32) then (bd (D_X1_isSoup (26 + 2 + 2 * Int32.toNatClampNeg x1) (gI u2 (26 + 2 + 2 * Int32.toNatClampNeg x1) 5) u2) (fun v20 u19 => if v20 = 0 then (some ((0 : Int32), u19)) else (some ((1 : Int32), u19)))) else (if v6 = (5 : Int32) then (bd (D_X1_holdsFast (26 + 2 + 2 * Int32.toNatClampNeg x1) u2) (fun v25 u24 => some (v25, u24))) else (if v6 = (6 : Int32) then (bd (D_X1_gap (26 + 2 + 2 * Int32.toNatClampNeg x1) u2) (fun v29 u28 => some (v29, u28))) else (some ((-1000000 : Int32), u2))))))))))))
section S_X11_hold
variable {p : Program} {l : Launch} {e : Env} {R : Room} {s : State} {m : MethodId} {args : Array Value} {below : List Frame} {meth : Method} {c : Code} {ad : Nat → Nat} {g : va_G} {tyc : Nat → ClassId}
set_option maxRecDepth 20000 in
theorem C_X11_hold  {x1 : Int32} {x2 : Int32} {μ : gs_M} {r : Int32} {μ2 : gs_M}  (hD : D_X11_hold x1 x2 μ = some (r, μ2)) : CALL yX11_hold cX11_hold 4 (some .int) 3 [.ref 0, .int x1, .int x2] μ (some (.int r)) μ2 := by
  unfold D_X11_hold at hD
  refine gs_enter mf_X11_hold (Nat.le_of_ble_eq_true rfl) (ls := [.ref 0, .int x1, .int x2, gs_J]) rfl (fun p l e R s m args below meth c ad g tyc hK => ?_)
  have hK : KC p R s m args meth c ad g tyc RX11 cX11_hold 4 (some .int) 3 := hK
  refine r_aload_n hK d_X11_hold_0 rfl rfl ?_
  refine r_getR hK d_X11_hold_1 fl_RX11_66_10 rfl kd_0 ?_
  refine r_ref (b := 26) R0_0_8 ?_
  refine r_iload_n hK d_X11_hold_4 rfl rfl ?_
  obtain ⟨v3, u2, e1, hD⟩ := bd_e hD
  refine r_callV (As := [.int x1]) (st := []) (stk2 := [.int v3]) hK (C_X10_hasHold kd_26 e1) d_X11_hold_5 mf_X10_hasHold ml_RX11_228 im_X10_hasHold rfl se_9_RX10_X10_hasHold kd_26 rfl (Nat.le_of_ble_eq_true rfl) (by decide) ⟨Nat.zero_le _, Nat.zero_le _⟩ rfl rfl ?_
  refine r_if_ne (tgt := 14) hK d_X11_hold_8 (by decide) (fun h4 => ?_) (fun h4 => ?_)
  · have hD := if_f hD h4
    refine r_aload_n hK d_X11_hold_14 rfl rfl ?_
    refine r_getR hK d_X11_hold_15 fl_RX11_66_10 rfl kd_0 ?_
    refine r_ref (b := 26) R0_0_8 ?_
    refine r_getR hK d_X11_hold_18 fl_RX11_182_9 rfl kd_26 ?_
    refine r_ref (b := (26 + 1)) ((ly_ves _ kd_26).1.1) ?_
    refine r_iload_n hK d_X11_hold_21 rfl rfl ?_
    obtain ⟨h5, hD⟩ := ck_e hD
    refine r_aaldH hK d_X11_hold_22 ((ly_ves _ kd_26).1.2.1) ((ly_ves _ kd_26).1.2.2) (inb_in h5) ?_
    refine r_ref (b := (26 + 2 + 2 * Int32.toNatClampNeg x1)) ((ly_vh _ kd_26 _ (inb_lt h5)).1) ?_
    refine r_astore_n hK d_X11_hold_23 rfl (by decide) (ls2 := [.ref 0, .int x1, .int x2, .ref (26 + 2 + 2 * Int32.toNatClampNeg x1)]) rfl ?_
    refine r_iload_n hK d_X11_hold_24 rfl rfl ?_
    refine r_lti hD (fun v6 hD => ?_)
    by_cases h7 : v6 = (0 : Int32)
    · subst h7
      have hD := if_t hD rfl
      refine r_tableIn (off := 43) (tgt := 68) hK d_X11_hold_25 (by decide) (by decide) (by decide) (by decide) ?_
      refine r_aload_n hK d_X11_hold_68 rfl rfl ?_
      obtain ⟨v10, u9, e8, hD⟩ := bd_e hD
      refine r_callV (As := []) (st := []) (stk2 := [.int v10]) hK (C_X1_allUnits ((ly_vh _ kd_26 _ (inb_lt h5)).2) e8) d_X11_hold_69 mf_X1_allUnits ml_RX11_232 im_X1_allUnits rfl se_1_RX1_X1_allUnits ((ly_vh _ kd_26 _ (inb_lt h5)).2) rfl (Nat.le_of_ble_eq_true rfl) (by decide) ⟨Nat.zero_le _, Nat.zero_le _⟩ rfl rfl ?_
      cases hD
      exact r_iret hK d_X11_hold_72
    have hD := if_f hD h7
    by_cases h11 : v6 = (1 : Int32)
    · subst h11
      have hD := if_t hD rfl
      refine r_tableIn (off := 48) (tgt := 73) hK d_X11_hold_25 (by decide) (by decide) (by decide) (by decide) ?_
      refine r_aload_n hK d_X11_hold_73 rfl rfl ?_
      obtain ⟨v14, u13, e12, hD⟩ := bd_e hD
      refine r_callV (As := []) (st := []) (stk2 := [.int v14]) hK (C_X1_moment ((ly_vh _ kd_26 _ (inb_lt h5)).2) e12) d_X11_hold_74 mf_X1_moment ml_RX11_235 im_X1_moment rfl se_1_RX1_X1_moment ((ly_vh _ kd_26 _ (inb_lt h5)).2) rfl (Nat.le_of_ble_eq_true rfl) (by decide) ⟨Nat.zero_le _, Nat.zero_le _⟩ rfl rfl ?_
      cases hD
      exact r_iret hK d_X11_hold_77
    have hD := if_f hD h11
    by_cases h15 : v6 = (2 : Int32)
    · subst h15
      have hD := if_t hD rfl
      refine r_tableIn (off := 53) (tgt := 78) hK d_X11_hold_25 (by decide) (by decide) (by decide) (by decide) ?_
      refine r_aload_n hK d_X11_hold_78 rfl rfl ?_
      refine r_getI hK d_X11_hold_79 fl_RX11_238_1 rfl ((ly_vh _ kd_26 _ (inb_lt h5)).2) ?_
      cases hD
      exact r_iret hK d_X11_hold_82
    have hD := if_f hD h15
    by_cases h16 : v6 = (3 : Int32)
    · subst h16
      have hD := if_t hD rfl
      refine r_tableIn (off := 58) (tgt := 83) hK d_X11_hold_25 (by decide) (by decide) (by decide) (by decide) ?_
      refine r_aload_n hK d_X11_hold_83 rfl rfl ?_
      refine r_getI hK d_X11_hold_84 fl_RX11_241_1 rfl ((ly_vh _ kd_26 _ (inb_lt h5)).2) ?_
      cases hD
      exact r_iret hK d_X11_hold_87
    have hD := if_f hD h16
    by_cases h17 : v6 = (4 : Int32)
    · subst h17
      have hD := if_t hD rfl
      refine r_tableIn (off := 63) (tgt := 88) hK d_X11_hold_25 (by decide) (by decide) (by decide) (by decide) ?_
      refine r_aload_n hK d_X11_hold_88 rfl rfl ?_
      refine r_aload_n hK d_X11_hold_89 rfl rfl ?_
      refine r_getI hK d_X11_hold_90 fl_RX11_241_1 rfl ((ly_vh _ kd_26 _ (inb_lt h5)).2) ?_
      obtain ⟨v20, u19, e18, hD⟩ := bd_e hD
      refine r_callV (As := [.int (gI u2 (26 + 2 + 2 * Int32.toNatClampNeg x1) 5)]) (st := []) (stk2 := [.int v20]) hK (C_X1_isSoup ((ly_vh _ kd_26 _ (inb_lt h5)).2) e18) d_X11_hold_93 mf_X1_isSoup ml_RX11_244 im_X1_isSoup rfl se_1_RX1_X1_isSoup ((ly_vh _ kd_26 _ (inb_lt h5)).2) rfl (Nat.le_of_ble_eq_true rfl) (by decide) ⟨Nat.zero_le _, Nat.zero_le _⟩ rfl rfl ?_
      refine r_if_eq (tgt := 103) hK d_X11_hold_96 (by decide) (fun h21 => ?_) (fun h21 => ?_)
      · have hD := if_t hD h21
        refine r_iconst hK d_X11_hold_103 ci_0 ?_
        cases hD
        exact r_iret hK d_X11_hold_104
      · have hD := if_f hD h21
        refine r_iconst hK d_X11_hold_99 ci_1 ?_
        refine r_goto (tgt := 104) hK d_X11_hold_100 (by decide) ?_
        cases hD
        exact r_iret hK d_X11_hold_104
    have hD := if_f hD h17
    by_cases h22 : v6 = (5 : Int32)
    · subst h22
      have hD := if_t hD rfl
      refine r_tableIn (off := 80) (tgt := 105) hK d_X11_hold_25 (by decide) (by decide) (by decide) (by decide) ?_
      refine r_aload_n hK d_X11_hold_105 rfl rfl ?_
      obtain ⟨v25, u24, e23, hD⟩ := bd_e hD
      refine r_callV (As := []) (st := []) (stk2 := [.int v25]) hK (C_X1_holdsFast ((ly_vh _ kd_26 _ (inb_lt h5)).2) e23) d_X11_hold_106 mf_X1_holdsFast ml_RX11_247 im_X1_holdsFast rfl se_1_RX1_X1_holdsFast ((ly_vh _ kd_26 _ (inb_lt h5)).2) rfl (Nat.le_of_ble_eq_true rfl) (by decide) ⟨Nat.zero_le _, Nat.zero_le _⟩ rfl rfl ?_
      cases hD
      exact r_iret hK d_X11_hold_109
    have hD := if_f hD h22
    by_cases h26 : v6 = (6 : Int32)
    · subst h26
      have hD := if_t hD rfl
      refine r_tableIn (off := 85) (tgt := 110) hK d_X11_hold_25 (by decide) (by decide) (by decide) (by decide) ?_
      refine r_aload_n hK d_X11_hold_110 rfl rfl ?_
      obtain ⟨v29, u28, e27, hD⟩ := bd_e hD
      refine r_callV (As := []) (st := []) (stk2 := [.int v29]) hK (C_X1_gap ((ly_vh _ kd_26 _ (inb_lt h5)).2) e27) d_X11_hold_111 mf_X1_gap ml_RX11_250 im_X1_gap rfl se_1_RX1_X1_gap ((ly_vh _ kd_26 _ (inb_lt h5)).2) rfl (Nat.le_of_ble_eq_true rfl) (by decide) ⟨Nat.zero_le _, Nat.zero_le _⟩ rfl rfl ?_
      cases hD
      exact r_iret hK d_X11_hold_114
    have hD := if_f hD h26
    refine r_tableOut (tgt := 115) hK d_X11_hold_25 (sw_out (fun k q1 q2 => by rcases (show k = 0 ∨ k = 1 ∨ k = 2 ∨ k = 3 ∨ k = 4 ∨ k = 5 ∨ k = 6 by omega) with rfl | rfl | rfl | rfl | rfl | rfl | rfl <;> assumption)) (by decide) ?_
    refine r_ldc hK d_X11_hold_115 kc_RX11_231 ?_
    cases hD
    exact r_iret hK d_X11_hold_117
  · have hD := if_t hD h4
    refine r_ldc hK d_X11_hold_11 kc_RX11_231 ?_
    cases hD
    exact r_iret hK d_X11_hold_13
end S_X11_hold
theorem d_X11_about_0 : gd cX11_about 0 (.aload_n 0) 1 1 := ⟨by decide +kernel, rfl⟩
theorem d_X11_about_1 : gd cX11_about 1 (.getfield 66) 3 4 := ⟨by decide +kernel, rfl⟩
theorem d_X11_about_4 : gd cX11_about 4 (.invokevirtual 253) 3 7 := ⟨by decide +kernel, rfl⟩
theorem d_X11_about_7 : gd cX11_about 7 (.ifCond .ne 6) 3 10 := ⟨by decide +kernel, rfl⟩
theorem d_X11_about_10 : gd cX11_about 10 (.ldc 231) 2 12 := ⟨by decide +kernel, rfl⟩
theorem d_X11_about_12 : gd cX11_about 12 .ireturn 1 13 := ⟨by decide +kernel, rfl⟩
theorem d_X11_about_13 : gd cX11_about 13 (.iload_n 1) 1 14 := ⟨by decide +kernel, rfl⟩
theorem d_X11_about_14 : gd cX11_about 14 (.tableswitch 94 0 5 #[38, 46, 54, 62, 78, 86]) 38 52 := ⟨by decide +kernel, rfl⟩
theorem d_X11_about_52 : gd cX11_about 52 (.aload_n 0) 1 53 := ⟨by decide +kernel, rfl⟩
theorem d_X11_about_53 : gd cX11_about 53 (.getfield 66) 3 56 := ⟨by decide +kernel, rfl⟩
theorem d_X11_about_56 : gd cX11_about 56 (.invokevirtual 256) 3 59 := ⟨by decide +kernel, rfl⟩
theorem d_X11_about_59 : gd cX11_about 59 .ireturn 1 60 := ⟨by decide +kernel, rfl⟩
theorem d_X11_about_60 : gd cX11_about 60 (.aload_n 0) 1 61 := ⟨by decide +kernel, rfl⟩
theorem d_X11_about_61 : gd cX11_about 61 (.getfield 66) 3 64 := ⟨by decide +kernel, rfl⟩
theorem d_X11_about_64 : gd cX11_about 64 (.getfield 259) 3 67 := ⟨by decide +kernel, rfl⟩
theorem d_X11_about_67 : gd cX11_about 67 .ireturn 1 68 := ⟨by decide +kernel, rfl⟩
theorem d_X11_about_68 : gd cX11_about 68 (.aload_n 0) 1 69 := ⟨by decide +kernel, rfl⟩
theorem d_X11_about_69 : gd cX11_about 69 (.getfield 66) 3 72 := ⟨by decide +kernel, rfl⟩
theorem d_X11_about_72 : gd cX11_about 72 (.getfield 216) 3 75 := ⟨by decide +kernel, rfl⟩
theorem d_X11_about_75 : gd cX11_about 75 .ireturn 1 76 := ⟨by decide +kernel, rfl⟩
theorem d_X11_about_76 : gd cX11_about 76 (.aload_n 0) 1 77 := ⟨by decide +kernel, rfl⟩
theorem d_X11_about_77 : gd cX11_about 77 (.getfield 66) 3 80 := ⟨by decide +kernel, rfl⟩
theorem d_X11_about_80 : gd cX11_about 80 (.getfield 262) 3 83 := ⟨by decide +kernel, rfl⟩
theorem d_X11_about_83 : gd cX11_about 83 (.ifCond .eq 7) 3 86 := ⟨by decide +kernel, rfl⟩
theorem d_X11_about_86 : gd cX11_about 86 (.iconst 1) 1 87 := ⟨by decide +kernel, rfl⟩
theorem d_X11_about_87 : gd cX11_about 87 (.goto 4) 3 90 := ⟨by decide +kernel, rfl⟩
theorem d_X11_about_90 : gd cX11_about 90 (.iconst 0) 1 91 := ⟨by decide +kernel, rfl⟩
theorem d_X11_about_91 : gd cX11_about 91 .ireturn 1 92 := ⟨by decide +kernel, rfl⟩
theorem d_X11_about_92 : gd cX11_about 92 (.aload_n 0) 1 93 := ⟨by decide +kernel, rfl⟩
theorem d_X11_about_93 : gd cX11_about 93 (.getfield 66) 3 96 := ⟨by decide +kernel, rfl⟩
theorem d_X11_about_96 : gd cX11_about 96 (.getfield 181) 3 99 := ⟨by decide +kernel, rfl⟩
theorem d_X11_about_99 : gd cX11_about 99 .ireturn 1 100 := ⟨by decide +kernel, rfl⟩
theorem d_X11_about_100 : gd cX11_about 100 (.aload_n 0) 1 101 := ⟨by decide +kernel, rfl⟩
theorem d_X11_about_101 : gd cX11_about 101 (.getfield 66) 3 104 := ⟨by decide +kernel, rfl⟩
theorem d_X11_about_104 : gd cX11_about 104 (.invokevirtual 266) 3 107 := ⟨by decide +kernel, rfl⟩
theorem d_X11_about_107 : gd cX11_about 107 .ireturn 1 108 := ⟨by decide +kernel, rfl⟩
theorem d_X11_about_108 : gd cX11_about 108 (.ldc 231) 2 110 := ⟨by decide +kernel, rfl⟩
theorem d_X11_about_110 : gd cX11_about 110 .ireturn 1 111 := ⟨by decide +kernel, rfl⟩
def D_X11_about (x1 : Int32) (μ : gs_M) : Option (Int32 × gs_M) :=
  bd (D_X10_isLoaded 26 μ) (fun v3 u2 => if v3 = 0 then (some ((-1000000 : Int32), u2)) else (lt1 x1 (fun v5 => if v5 = (0 : Int32) then (bd (D_X10_lean 26 u2) (fun v9 u8 => some (v9, u8))) else (if v5 = (1 : Int32) then (some (gI u2 26 2, u2)) else (if v5 = (2 : Int32) then (some (gI u2 26 3, u2)) else (if v5 = (3 : Int32) then (if (gI u2 26 4) = 0 then (some ((0 : Int32), u2)) else (some ((1 : Int32), u2))) else (if v5 = (4 : Int32) then (some (gI u2 26 1, u2)) else (if v5 = (5 : Int32) then (bd (D_X10_moments 26 u2) (fun v18 u17 => some (v18, u17))) else (some ((-1000000 : Int32), u2))))))))))
section S_X11_about
variable {p : Program} {l : Launch} {e : Env} {R : Room} {s : State} {m : MethodId} {args : Array Value} {below : List Frame} {meth : Method} {c : Code} {ad : Nat → Nat} {g : va_G} {tyc : Nat → ClassId}
set_option maxRecDepth 20000 in
theorem C_X11_about  {x1 : Int32} {μ : gs_M} {r : Int32} {μ2 : gs_M}  (hD : D_X11_about x1 μ = some (r, μ2)) : CALL yX11_about cX11_about 2 (some .int) 3 [.ref 0, .int x1] μ (some (.int r)) μ2 := by
  unfold D_X11_about at hD
  refine gs_enter mf_X11_about (Nat.le_of_ble_eq_true rfl) (ls := [.ref 0, .int x1]) rfl (fun p l e R s m args below meth c ad g tyc hK => ?_)
  have hK : KC p R s m args meth c ad g tyc RX11 cX11_about 2 (some .int) 3 := hK
  refine r_aload_n hK d_X11_about_0 rfl rfl ?_
  refine r_getR hK d_X11_about_1 fl_RX11_66_10 rfl kd_0 ?_
  refine r_ref (b := 26) R0_0_8 ?_
  obtain ⟨v3, u2, e1, hD⟩ := bd_e hD
  refine r_callV (As := []) (st := []) (stk2 := [.int v3]) hK (C_X10_isLoaded kd_26 e1) d_X11_about_4 mf_X10_isLoaded ml_RX11_253 im_X10_isLoaded rfl se_9_RX10_X10_isLoaded kd_26 rfl (Nat.le_of_ble_eq_true rfl) (by decide) ⟨Nat.zero_le _, Nat.zero_le _⟩ rfl rfl ?_
  refine r_if_ne (tgt := 13) hK d_X11_about_7 (by decide) (fun h4 => ?_) (fun h4 => ?_)
  · have hD := if_f hD h4
    refine r_iload_n hK d_X11_about_13 rfl rfl ?_
    refine r_lti hD (fun v5 hD => ?_)
    by_cases h6 : v5 = (0 : Int32)
    · subst h6
      have hD := if_t hD rfl
      refine r_tableIn (off := 38) (tgt := 52) hK d_X11_about_14 (by decide) (by decide) (by decide) (by decide) ?_
      refine r_aload_n hK d_X11_about_52 rfl rfl ?_
      refine r_getR hK d_X11_about_53 fl_RX11_66_10 rfl kd_0 ?_
      refine r_ref (b := 26) R0_0_8 ?_
      obtain ⟨v9, u8, e7, hD⟩ := bd_e hD
      refine r_callV (As := []) (st := []) (stk2 := [.int v9]) hK (C_X10_lean kd_26 e7) d_X11_about_56 mf_X10_lean ml_RX11_256 im_X10_lean rfl se_9_RX10_X10_lean kd_26 rfl (Nat.le_of_ble_eq_true rfl) (by decide) ⟨Nat.zero_le _, Nat.zero_le _⟩ rfl rfl ?_
      cases hD
      exact r_iret hK d_X11_about_59
    have hD := if_f hD h6
    by_cases h10 : v5 = (1 : Int32)
    · subst h10
      have hD := if_t hD rfl
      refine r_tableIn (off := 46) (tgt := 60) hK d_X11_about_14 (by decide) (by decide) (by decide) (by decide) ?_
      refine r_aload_n hK d_X11_about_60 rfl rfl ?_
      refine r_getR hK d_X11_about_61 fl_RX11_66_10 rfl kd_0 ?_
      refine r_ref (b := 26) R0_0_8 ?_
      refine r_getI hK d_X11_about_64 fl_RX11_259_9 rfl kd_26 ?_
      cases hD
      exact r_iret hK d_X11_about_67
    have hD := if_f hD h10
    by_cases h11 : v5 = (2 : Int32)
    · subst h11
      have hD := if_t hD rfl
      refine r_tableIn (off := 54) (tgt := 68) hK d_X11_about_14 (by decide) (by decide) (by decide) (by decide) ?_
      refine r_aload_n hK d_X11_about_68 rfl rfl ?_
      refine r_getR hK d_X11_about_69 fl_RX11_66_10 rfl kd_0 ?_
      refine r_ref (b := 26) R0_0_8 ?_
      refine r_getI hK d_X11_about_72 fl_RX11_216_9 rfl kd_26 ?_
      cases hD
      exact r_iret hK d_X11_about_75
    have hD := if_f hD h11
    by_cases h12 : v5 = (3 : Int32)
    · subst h12
      have hD := if_t hD rfl
      refine r_tableIn (off := 62) (tgt := 76) hK d_X11_about_14 (by decide) (by decide) (by decide) (by decide) ?_
      refine r_aload_n hK d_X11_about_76 rfl rfl ?_
      refine r_getR hK d_X11_about_77 fl_RX11_66_10 rfl kd_0 ?_
      refine r_ref (b := 26) R0_0_8 ?_
      refine r_getZ hK d_X11_about_80 fl_RX11_262_9 rfl kd_26 ?_
      refine r_if_eq (tgt := 90) hK d_X11_about_83 (by decide) (fun h13 => ?_) (fun h13 => ?_)
      · have hD := if_t hD h13
        refine r_iconst hK d_X11_about_90 ci_0 ?_
        cases hD
        exact r_iret hK d_X11_about_91
      · have hD := if_f hD h13
        refine r_iconst hK d_X11_about_86 ci_1 ?_
        refine r_goto (tgt := 91) hK d_X11_about_87 (by decide) ?_
        cases hD
        exact r_iret hK d_X11_about_91
    have hD := if_f hD h12
    by_cases h14 : v5 = (4 : Int32)
    · subst h14
      have hD := if_t hD rfl
      refine r_tableIn (off := 78) (tgt := 92) hK d_X11_about_14 (by decide) (by decide) (by decide) (by decide) ?_
      refine r_aload_n hK d_X11_about_92 rfl rfl ?_
      refine r_getR hK d_X11_about_93 fl_RX11_66_10 rfl kd_0 ?_
      refine r_ref (b := 26) R0_0_8 ?_
      refine r_getI hK d_X11_about_96 fl_RX11_181_9 rfl kd_26 ?_
      cases hD
      exact r_iret hK d_X11_about_99
    have hD := if_f hD h14
    by_cases h15 : v5 = (5 : Int32)
    · subst h15
      have hD := if_t hD rfl
      refine r_tableIn (off := 86) (tgt := 100) hK d_X11_about_14 (by decide) (by decide) (by decide) (by decide) ?_
      refine r_aload_n hK d_X11_about_100 rfl rfl ?_
      refine r_getR hK d_X11_about_101 fl_RX11_66_10 rfl kd_0 ?_
      refine r_ref (b := 26) R0_0_8 ?_
      obtain ⟨v18, u17, e16, hD⟩ := bd_e hD
      refine r_callV (As := []) (st := []) (stk2 := [.int v18]) hK (C_X10_moments kd_26 e16) d_X11_about_104 mf_X10_moments ml_RX11_266 im_X10_moments rfl se_9_RX10_X10_moments kd_26 rfl (Nat.le_of_ble_eq_true rfl) (by decide) ⟨Nat.zero_le _, Nat.zero_le _⟩ rfl rfl ?_
      cases hD
      exact r_iret hK d_X11_about_107
    have hD := if_f hD h15
    refine r_tableOut (tgt := 108) hK d_X11_about_14 (sw_out (fun k q1 q2 => by rcases (show k = 0 ∨ k = 1 ∨ k = 2 ∨ k = 3 ∨ k = 4 ∨ k = 5 by omega) with rfl | rfl | rfl | rfl | rfl | rfl <;> assumption)) (by decide) ?_
    refine r_ldc hK d_X11_about_108 kc_RX11_231 ?_
    cases hD
    exact r_iret hK d_X11_about_110
  · have hD := if_t hD h4
    refine r_ldc hK d_X11_about_10 kc_RX11_231 ?_
    cases hD
    exact r_iret hK d_X11_about_12
end S_X11_about
theorem d_X11_tryRoll_0 : gd cX11_tryRoll 0 (.aload_n 0) 1 1 := ⟨by decide +kernel, rfl⟩
theorem d_X11_tryRoll_1 : gd cX11_tryRoll 1 (.getfield 76) 3 4 := ⟨by decide +kernel, rfl⟩
theorem d_X11_tryRoll_4 : gd cX11_tryRoll 4 (.aload_n 0) 1 5 := ⟨by decide +kernel, rfl⟩
theorem d_X11_tryRoll_5 : gd cX11_tryRoll 5 (.getfield 66) 3 8 := ⟨by decide +kernel, rfl⟩
theorem d_X11_tryRoll_8 : gd cX11_tryRoll 8 (.invokevirtual 278) 3 11 := ⟨by decide +kernel, rfl⟩
theorem d_X11_tryRoll_11 : gd cX11_tryRoll 11 (.aload_n 0) 1 12 := ⟨by decide +kernel, rfl⟩
theorem d_X11_tryRoll_12 : gd cX11_tryRoll 12 (.getfield 76) 3 15 := ⟨by decide +kernel, rfl⟩
theorem d_X11_tryRoll_15 : gd cX11_tryRoll 15 (.iload_n 1) 1 16 := ⟨by decide +kernel, rfl⟩
theorem d_X11_tryRoll_16 : gd cX11_tryRoll 16 (.invokevirtual 210) 3 19 := ⟨by decide +kernel, rfl⟩
theorem d_X11_tryRoll_19 : gd cX11_tryRoll 19 .ireturn 1 20 := ⟨by decide +kernel, rfl⟩
def D_X11_tryRoll (x1 : Int32) (μ : gs_M) : Option (Int32 × gs_M) :=
  bd0 (D_X10_become 56 26 μ) (fun u2 => bd (D_X10_rollBy 56 x1 u2) (fun v5 u4 => some (v5, u4)))
section S_X11_tryRoll
variable {p : Program} {l : Launch} {e : Env} {R : Room} {s : State} {m : MethodId} {args : Array Value} {below : List Frame} {meth : Method} {c : Code} {ad : Nat → Nat} {g : va_G} {tyc : Nat → ClassId}
set_option maxRecDepth 20000 in
theorem C_X11_tryRoll  {x1 : Int32} {μ : gs_M} {r : Int32} {μ2 : gs_M}  (hD : D_X11_tryRoll x1 μ = some (r, μ2)) : CALL yX11_tryRoll cX11_tryRoll 2 (some .int) 5 [.ref 0, .int x1] μ (some (.int r)) μ2 := by
  unfold D_X11_tryRoll at hD
  refine gs_enter mf_X11_tryRoll (Nat.le_of_ble_eq_true rfl) (ls := [.ref 0, .int x1]) rfl (fun p l e R s m args below meth c ad g tyc hK => ?_)
  have hK : KC p R s m args meth c ad g tyc RX11 cX11_tryRoll 2 (some .int) 5 := hK
  refine r_aload_n hK d_X11_tryRoll_0 rfl rfl ?_
  refine r_getR hK d_X11_tryRoll_1 fl_RX11_76_10 rfl kd_0 ?_
  refine r_ref (b := 56) R0_0_11 ?_
  refine r_aload_n hK d_X11_tryRoll_4 rfl rfl ?_
  refine r_getR hK d_X11_tryRoll_5 fl_RX11_66_10 rfl kd_0 ?_
  refine r_ref (b := 26) R0_0_8 ?_
  obtain ⟨u2, e1, hD⟩ := bd0_e hD
  refine r_callV (As := [.ref 26]) (st := []) (stk2 := []) hK (C_X10_become kd_56 kd_26 e1) d_X11_tryRoll_8 mf_X10_become ml_RX11_278 im_X10_become rfl se_9_RX10_X10_become kd_56 rfl (Nat.le_of_ble_eq_true rfl) (by decide) ⟨Nat.zero_le _, Nat.zero_le _⟩ rfl rfl ?_
  refine r_aload_n hK d_X11_tryRoll_11 rfl rfl ?_
  refine r_getR hK d_X11_tryRoll_12 fl_RX11_76_10 rfl kd_0 ?_
  refine r_ref (b := 56) R0_0_11 ?_
  refine r_iload_n hK d_X11_tryRoll_15 rfl rfl ?_
  obtain ⟨v5, u4, e3, hD⟩ := bd_e hD
  refine r_callV (As := [.int x1]) (st := []) (stk2 := [.int v5]) hK (C_X10_rollBy kd_56 e3) d_X11_tryRoll_16 mf_X10_rollBy ml_RX11_210 im_X10_rollBy rfl se_9_RX10_X10_rollBy kd_56 rfl (Nat.le_of_ble_eq_true rfl) (by decide) ⟨Nat.zero_le _, Nat.zero_le _⟩ rfl rfl ?_
  cases hD
  exact r_iret hK d_X11_tryRoll_19
end S_X11_tryRoll
theorem d_X11_goes_0 : gd cX11_goes 0 (.aload_n 0) 1 1 := ⟨by decide +kernel, rfl⟩
theorem d_X11_goes_1 : gd cX11_goes 1 (.invokevirtual 206) 3 4 := ⟨by decide +kernel, rfl⟩
theorem d_X11_goes_4 : gd cX11_goes 4 (.ifCond .eq 22) 3 7 := ⟨by decide +kernel, rfl⟩
theorem d_X11_goes_7 : gd cX11_goes 7 (.iload_n 1) 1 8 := ⟨by decide +kernel, rfl⟩
theorem d_X11_goes_8 : gd cX11_goes 8 (.iconst 0) 1 9 := ⟨by decide +kernel, rfl⟩
theorem d_X11_goes_9 : gd cX11_goes 9 (.bipush 40) 2 11 := ⟨by decide +kernel, rfl⟩
theorem d_X11_goes_11 : gd cX11_goes 11 (.invokestatic 123) 3 14 := ⟨by decide +kernel, rfl⟩
theorem d_X11_goes_14 : gd cX11_goes 14 (.ifCond .eq 12) 3 17 := ⟨by decide +kernel, rfl⟩
theorem d_X11_goes_17 : gd cX11_goes 17 (.iload_n 2) 1 18 := ⟨by decide +kernel, rfl⟩
theorem d_X11_goes_18 : gd cX11_goes 18 (.iconst 0) 1 19 := ⟨by decide +kernel, rfl⟩
theorem d_X11_goes_19 : gd cX11_goes 19 (.iconst 2) 1 20 := ⟨by decide +kernel, rfl⟩
theorem d_X11_goes_20 : gd cX11_goes 20 (.invokestatic 123) 3 23 := ⟨by decide +kernel, rfl⟩
theorem d_X11_goes_23 : gd cX11_goes 23 (.ifCond .ne 6) 3 26 := ⟨by decide +kernel, rfl⟩
theorem d_X11_goes_26 : gd cX11_goes 26 (.ldc 231) 2 28 := ⟨by decide +kernel, rfl⟩
theorem d_X11_goes_28 : gd cX11_goes 28 .ireturn 1 29 := ⟨by decide +kernel, rfl⟩
theorem d_X11_goes_29 : gd cX11_goes 29 (.aload_n 0) 1 30 := ⟨by decide +kernel, rfl⟩
theorem d_X11_goes_30 : gd cX11_goes 30 (.iload_n 1) 1 31 := ⟨by decide +kernel, rfl⟩
theorem d_X11_goes_31 : gd cX11_goes 31 (.invokevirtual 269) 3 34 := ⟨by decide +kernel, rfl⟩
theorem d_X11_goes_34 : gd cX11_goes 34 .pop 1 35 := ⟨by decide +kernel, rfl⟩
theorem d_X11_goes_35 : gd cX11_goes 35 (.iload_n 2) 1 36 := ⟨by decide +kernel, rfl⟩
theorem d_X11_goes_36 : gd cX11_goes 36 (.ifCond .ne 13) 3 39 := ⟨by decide +kernel, rfl⟩
theorem d_X11_goes_39 : gd cX11_goes 39 (.aload_n 0) 1 40 := ⟨by decide +kernel, rfl⟩
theorem d_X11_goes_40 : gd cX11_goes 40 (.getfield 76) 3 43 := ⟨by decide +kernel, rfl⟩
theorem d_X11_goes_43 : gd cX11_goes 43 (.invokevirtual 272) 3 46 := ⟨by decide +kernel, rfl⟩
theorem d_X11_goes_46 : gd cX11_goes 46 (.goto 25) 3 49 := ⟨by decide +kernel, rfl⟩
theorem d_X11_goes_49 : gd cX11_goes 49 (.iload_n 2) 1 50 := ⟨by decide +kernel, rfl⟩
theorem d_X11_goes_50 : gd cX11_goes 50 (.iconst 1) 1 51 := ⟨by decide +kernel, rfl⟩
theorem d_X11_goes_51 : gd cX11_goes 51 (.if_icmp .ne 13) 3 54 := ⟨by decide +kernel, rfl⟩
theorem d_X11_goes_54 : gd cX11_goes 54 (.aload_n 0) 1 55 := ⟨by decide +kernel, rfl⟩
theorem d_X11_goes_55 : gd cX11_goes 55 (.getfield 76) 3 58 := ⟨by decide +kernel, rfl⟩
theorem d_X11_goes_58 : gd cX11_goes 58 (.invokevirtual 275) 3 61 := ⟨by decide +kernel, rfl⟩
theorem d_X11_goes_61 : gd cX11_goes 61 (.goto 10) 3 64 := ⟨by decide +kernel, rfl⟩
theorem d_X11_goes_64 : gd cX11_goes 64 (.aload_n 0) 1 65 := ⟨by decide +kernel, rfl⟩
theorem d_X11_goes_65 : gd cX11_goes 65 (.getfield 76) 3 68 := ⟨by decide +kernel, rfl⟩
theorem d_X11_goes_68 : gd cX11_goes 68 (.invokevirtual 256) 3 71 := ⟨by decide +kernel, rfl⟩
theorem d_X11_goes_71 : gd cX11_goes 71 .ireturn 1 72 := ⟨by decide +kernel, rfl⟩
def D_X11_goes (x1 : Int32) (x2 : Int32) (μ : gs_M) : Option (Int32 × gs_M) :=
  bd (D_X11_isReady μ) (fun v3 u2 => if v3 = 0 then (some ((-1000000 : Int32), u2)) else (bd (D_X11_within x1 (0 : Int32) (40 : Int32) u2) (fun v7 u6 => if v7 = 0 then (some ((-1000000 : Int32), u6)) else (bd (D_X11_within x2 (0 : Int32) (2 : Int32) u6) (fun v11 u10 => if v11 = 0 then (some ((-1000000 : Int32), u10)) else (bd (D_X11_tryRoll x1 u10) (fun v15 u14 => if x2 = 0 then (bd (D_X10_wentRight 56 u14) (fun v26 u25 => some (v26, u25))) else (if x2 = (1 : Int32) then (bd (D_X10_wentLeft 56 u14) (fun v23 u22 => some (v23, u22))) else (bd (D_X10_lean 56 u14) (fun v20 u19 => some (v20, u19)))))))))))
section S_X11_goes
variable {p : Program} {l : Launch} {e : Env} {R : Room} {s : State} {m : MethodId} {args : Array Value} {below : List Frame} {meth : Method} {c : Code} {ad : Nat → Nat} {g : va_G} {tyc : Nat → ClassId}
set_option maxRecDepth 20000 in
theorem C_X11_goes  {x1 : Int32} {x2 : Int32} {μ : gs_M} {r : Int32} {μ2 : gs_M}  (hD : D_X11_goes x1 x2 μ = some (r, μ2)) : CALL yX11_goes cX11_goes 3 (some .int) 6 [.ref 0, .int x1, .int x2] μ (some (.int r)) μ2 := by
  unfold D_X11_goes at hD
  refine gs_enter mf_X11_goes (Nat.le_of_ble_eq_true rfl) (ls := [.ref 0, .int x1, .int x2]) rfl (fun p l e R s m args below meth c ad g tyc hK => ?_)
  have hK : KC p R s m args meth c ad g tyc RX11 cX11_goes 3 (some .int) 6 := hK
  refine r_aload_n hK d_X11_goes_0 rfl rfl ?_
  obtain ⟨v3, u2, e1, hD⟩ := bd_e hD
  refine r_callV (As := []) (st := []) (stk2 := [.int v3]) hK (C_X11_isReady  e1) d_X11_goes_1 mf_X11_isReady ml_RX11_206 im_X11_isReady rfl se_10_RX11_X11_isReady kd_0 rfl (Nat.le_of_ble_eq_true rfl) (by decide) ⟨Nat.zero_le _, Nat.zero_le _⟩ rfl rfl ?_
  refine r_if_eq (tgt := 26) hK d_X11_goes_4 (by decide) (fun h4 => ?_) (fun h4 => ?_)
  · have hD := if_t hD h4
    refine r_ldc hK d_X11_goes_26 kc_RX11_231 ?_
    cases hD
    exact r_iret hK d_X11_goes_28
  · have hD := if_f hD h4
    refine r_iload_n hK d_X11_goes_7 rfl rfl ?_
    refine r_iconst hK d_X11_goes_8 ci_0 ?_
    refine r_bipush hK d_X11_goes_9 cb_40 ?_
    obtain ⟨v7, u6, e5, hD⟩ := bd_e hD
    refine r_callS (As := [.int x1, .int (0 : Int32), .int (40 : Int32)]) (st := []) (stk2 := [.int v7]) hK (C_X11_within  e5) d_X11_goes_11 mf_X11_within ml_RX11_123 ss_X11_within rfl (Nat.le_of_ble_eq_true rfl) (by decide) ⟨Nat.zero_le _, Nat.zero_le _⟩ rfl rfl ?_
    refine r_if_eq (tgt := 26) hK d_X11_goes_14 (by decide) (fun h8 => ?_) (fun h8 => ?_)
    · have hD := if_t hD h8
      refine r_ldc hK d_X11_goes_26 kc_RX11_231 ?_
      cases hD
      exact r_iret hK d_X11_goes_28
    · have hD := if_f hD h8
      refine r_iload_n hK d_X11_goes_17 rfl rfl ?_
      refine r_iconst hK d_X11_goes_18 ci_0 ?_
      refine r_iconst hK d_X11_goes_19 ci_2 ?_
      obtain ⟨v11, u10, e9, hD⟩ := bd_e hD
      refine r_callS (As := [.int x2, .int (0 : Int32), .int (2 : Int32)]) (st := []) (stk2 := [.int v11]) hK (C_X11_within  e9) d_X11_goes_20 mf_X11_within ml_RX11_123 ss_X11_within rfl (Nat.le_of_ble_eq_true rfl) (by decide) ⟨Nat.zero_le _, Nat.zero_le _⟩ rfl rfl ?_
      refine r_if_ne (tgt := 29) hK d_X11_goes_23 (by decide) (fun h12 => ?_) (fun h12 => ?_)
      · have hD := if_f hD h12
        refine r_aload_n hK d_X11_goes_29 rfl rfl ?_
        refine r_iload_n hK d_X11_goes_30 rfl rfl ?_
        obtain ⟨v15, u14, e13, hD⟩ := bd_e hD
        refine r_callV (As := [.int x1]) (st := []) (stk2 := [.int v15]) hK (C_X11_tryRoll  e13) d_X11_goes_31 mf_X11_tryRoll ml_RX11_269 im_X11_tryRoll rfl se_10_RX11_X11_tryRoll kd_0 rfl (Nat.le_of_ble_eq_true rfl) (by decide) ⟨Nat.zero_le _, Nat.zero_le _⟩ rfl rfl ?_
        refine r_pop hK d_X11_goes_34 rfl ?_
        refine r_iload_n hK d_X11_goes_35 rfl rfl ?_
        refine r_if_ne (tgt := 49) hK d_X11_goes_36 (by decide) (fun h16 => ?_) (fun h16 => ?_)
        · have hD := if_f hD h16
          refine r_iload_n hK d_X11_goes_49 rfl rfl ?_
          refine r_iconst hK d_X11_goes_50 ci_1 ?_
          refine r_icmp_ne (tgt := 64) hK d_X11_goes_51 (by decide) (fun h17 => ?_) (fun h17 => ?_)
          · have hD := if_f hD h17
            refine r_aload_n hK d_X11_goes_64 rfl rfl ?_
            refine r_getR hK d_X11_goes_65 fl_RX11_76_10 rfl kd_0 ?_
            refine r_ref (b := 56) R0_0_11 ?_
            obtain ⟨v20, u19, e18, hD⟩ := bd_e hD
            refine r_callV (As := []) (st := []) (stk2 := [.int v20]) hK (C_X10_lean kd_56 e18) d_X11_goes_68 mf_X10_lean ml_RX11_256 im_X10_lean rfl se_9_RX10_X10_lean kd_56 rfl (Nat.le_of_ble_eq_true rfl) (by decide) ⟨Nat.zero_le _, Nat.zero_le _⟩ rfl rfl ?_
            cases hD
            exact r_iret hK d_X11_goes_71
          · have hD := if_t hD h17
            refine r_aload_n hK d_X11_goes_54 rfl rfl ?_
            refine r_getR hK d_X11_goes_55 fl_RX11_76_10 rfl kd_0 ?_
            refine r_ref (b := 56) R0_0_11 ?_
            obtain ⟨v23, u22, e21, hD⟩ := bd_e hD
            refine r_callV (As := []) (st := []) (stk2 := [.int v23]) hK (C_X10_wentLeft kd_56 e21) d_X11_goes_58 mf_X10_wentLeft ml_RX11_275 im_X10_wentLeft rfl se_9_RX10_X10_wentLeft kd_56 rfl (Nat.le_of_ble_eq_true rfl) (by decide) ⟨Nat.zero_le _, Nat.zero_le _⟩ rfl rfl ?_
            refine r_goto (tgt := 71) hK d_X11_goes_61 (by decide) ?_
            cases hD
            exact r_iret hK d_X11_goes_71
        · have hD := if_t hD h16
          refine r_aload_n hK d_X11_goes_39 rfl rfl ?_
          refine r_getR hK d_X11_goes_40 fl_RX11_76_10 rfl kd_0 ?_
          refine r_ref (b := 56) R0_0_11 ?_
          obtain ⟨v26, u25, e24, hD⟩ := bd_e hD
          refine r_callV (As := []) (st := []) (stk2 := [.int v26]) hK (C_X10_wentRight kd_56 e24) d_X11_goes_43 mf_X10_wentRight ml_RX11_272 im_X10_wentRight rfl se_9_RX10_X10_wentRight kd_56 rfl (Nat.le_of_ble_eq_true rfl) (by decide) ⟨Nat.zero_le _, Nat.zero_le _⟩ rfl rfl ?_
          refine r_goto (tgt := 71) hK d_X11_goes_46 (by decide) ?_
          cases hD
          exact r_iret hK d_X11_goes_71
      · have hD := if_t hD h12
        refine r_ldc hK d_X11_goes_26 kc_RX11_231 ?_
        cases hD
        exact r_iret hK d_X11_goes_28
end S_X11_goes
theorem d_X11_least_0 : gd cX11_least 0 (.aload_n 0) 1 1 := ⟨by decide +kernel, rfl⟩
theorem d_X11_least_1 : gd cX11_least 1 (.invokevirtual 206) 3 4 := ⟨by decide +kernel, rfl⟩
theorem d_X11_least_4 : gd cX11_least 4 (.ifCond .ne 5) 3 7 := ⟨by decide +kernel, rfl⟩
theorem d_X11_least_7 : gd cX11_least 7 (.iconst (-1)) 1 8 := ⟨by decide +kernel, rfl⟩
theorem d_X11_least_8 : gd cX11_least 8 .ireturn 1 9 := ⟨by decide +kernel, rfl⟩
theorem d_X11_least_9 : gd cX11_least 9 (.iconst 0) 1 10 := ⟨by decide +kernel, rfl⟩
theorem d_X11_least_10 : gd cX11_least 10 (.istore_n 1) 1 11 := ⟨by decide +kernel, rfl⟩
theorem d_X11_least_11 : gd cX11_least 11 (.iload_n 1) 1 12 := ⟨by decide +kernel, rfl⟩
theorem d_X11_least_12 : gd cX11_least 12 (.bipush 40) 2 14 := ⟨by decide +kernel, rfl⟩
theorem d_X11_least_14 : gd cX11_least 14 (.if_icmp .gt 19) 3 17 := ⟨by decide +kernel, rfl⟩
theorem d_X11_least_17 : gd cX11_least 17 (.aload_n 0) 1 18 := ⟨by decide +kernel, rfl⟩
theorem d_X11_least_18 : gd cX11_least 18 (.iload_n 1) 1 19 := ⟨by decide +kernel, rfl⟩
theorem d_X11_least_19 : gd cX11_least 19 (.invokevirtual 269) 3 22 := ⟨by decide +kernel, rfl⟩
theorem d_X11_least_22 : gd cX11_least 22 (.ifCond .le 5) 3 25 := ⟨by decide +kernel, rfl⟩
theorem d_X11_least_25 : gd cX11_least 25 (.iload_n 1) 1 26 := ⟨by decide +kernel, rfl⟩
theorem d_X11_least_26 : gd cX11_least 26 .ireturn 1 27 := ⟨by decide +kernel, rfl⟩
theorem d_X11_least_27 : gd cX11_least 27 (.iinc 1 1) 3 30 := ⟨by decide +kernel, rfl⟩
theorem d_X11_least_30 : gd cX11_least 30 (.goto (-19)) 3 33 := ⟨by decide +kernel, rfl⟩
theorem d_X11_least_33 : gd cX11_least 33 (.iconst (-1)) 1 34 := ⟨by decide +kernel, rfl⟩
theorem d_X11_least_34 : gd cX11_least 34 .ireturn 1 35 := ⟨by decide +kernel, rfl⟩
def Bo_X11_least_11 (q11 : Int32 → gs_M → Option (Int32 × gs_M)) (x1 : Int32) (μ : gs_M) : Option (Int32 × gs_M) :=
  if (40 : Int32) < x1 then (some ((-1 : Int32), μ)) else (bd (D_X11_tryRoll x1 μ) (fun v4 u3 => if v4 ≤ 0 then (q11 (x1 + (1 : Int32)) u3) else (some (x1, u3))))
def L_X11_least_11  : Nat → Int32 → gs_M → Option (Int32 × gs_M)
  | 0 => fun _ _ => none
  | n + 1 => fun x1 μ => Bo_X11_least_11  (L_X11_least_11  n) x1 μ
def D_X11_least  (μ : gs_M) : Option (Int32 × gs_M) :=
  bd (D_X11_isReady μ) (fun v3 u2 => if v3 = 0 then (some ((-1 : Int32), u2)) else (L_X11_least_11 4096 (0 : Int32) u2))
section S_X11_least
variable {p : Program} {l : Launch} {e : Env} {R : Room} {s : State} {m : MethodId} {args : Array Value} {below : List Frame} {meth : Method} {c : Code} {ad : Nat → Nat} {g : va_G} {tyc : Nat → ClassId}
set_option maxRecDepth 20000 in
theorem To_X11_least_11  (hK : KC p R s m args meth c ad g tyc RX11 cX11_least 2 (some .int) 6) {r : Int32} {μ2 : gs_M} {q11 : Int32 → gs_M → Option (Int32 × gs_M)} (hq11 : ∀ (x1 : Int32) (μ : gs_M), q11 x1 μ = some (r, μ2) → WJ p l e R s m args below meth c 0 0 (MQ below (gs_Q ad g tyc (some (.int r)) μ2) args s 0 0 (gs_A ad)) ad g tyc 2 11 [.ref 0, .int x1] [] μ) {x1 : Int32} {μ : gs_M}  (hD : Bo_X11_least_11 q11 x1 μ = some (r, μ2)) : WJ p l e R s m args below meth c 0 0 (MQ below (gs_Q ad g tyc (some (.int r)) μ2) args s 0 0 (gs_A ad)) ad g tyc 2 11 [.ref 0, .int x1] [] μ := by
  unfold Bo_X11_least_11 at hD
  refine r_iload_n hK d_X11_least_11 rfl rfl ?_
  refine r_bipush hK d_X11_least_12 cb_40 ?_
  refine r_icmp_gt (tgt := 33) hK d_X11_least_14 (by decide) (fun h1 => ?_) (fun h1 => ?_)
  · have hD := if_t hD h1
    refine r_iconst hK d_X11_least_33 ci_m1 ?_
    cases hD
    exact r_iret hK d_X11_least_34
  · have hD := if_f hD h1
    refine r_aload_n hK d_X11_least_17 rfl rfl ?_
    refine r_iload_n hK d_X11_least_18 rfl rfl ?_
    obtain ⟨v4, u3, e2, hD⟩ := bd_e hD
    refine r_callV (As := [.int x1]) (st := []) (stk2 := [.int v4]) hK (C_X11_tryRoll  e2) d_X11_least_19 mf_X11_tryRoll ml_RX11_269 im_X11_tryRoll rfl se_10_RX11_X11_tryRoll kd_0 rfl (Nat.le_of_ble_eq_true rfl) (by decide) ⟨Nat.zero_le _, Nat.zero_le _⟩ rfl rfl ?_
    refine r_if_le (tgt := 27) hK d_X11_least_22 (by decide) (fun h5 => ?_) (fun h5 => ?_)
    · have hD := if_t hD h5
      refine r_iinc hK d_X11_least_27 rfl (v := x1 + (1 : Int32)) (by rw [ci_1]) (by decide) (ls2 := [.ref 0, .int (x1 + (1 : Int32))]) rfl ?_
      refine r_goto (tgt := 11) hK d_X11_least_30 (by decide) ?_
      exact hq11 _ _  hD
    · have hD := if_f hD h5
      refine r_iload_n hK d_X11_least_25 rfl rfl ?_
      cases hD
      exact r_iret hK d_X11_least_26
set_option maxRecDepth 20000 in
theorem TL_X11_least_11  (hK : KC p R s m args meth c ad g tyc RX11 cX11_least 2 (some .int) 6) {r : Int32} {μ2 : gs_M}   : ∀ (n : Nat) (x1 : Int32) (μ : gs_M), L_X11_least_11  n x1 μ = some (r, μ2) → WJ p l e R s m args below meth c 0 0 (MQ below (gs_Q ad g tyc (some (.int r)) μ2) args s 0 0 (gs_A ad)) ad g tyc 2 11 [.ref 0, .int x1] [] μ := by
  intro n
  induction n with
  | zero => intro x1 μ  hD; cases hD
  | succ n ih => intro x1 μ  hD; exact To_X11_least_11 hK  ih  hD
set_option maxRecDepth 20000 in
theorem C_X11_least   {μ : gs_M} {r : Int32} {μ2 : gs_M}  (hD : D_X11_least  μ = some (r, μ2)) : CALL yX11_least cX11_least 2 (some .int) 6 [.ref 0] μ (some (.int r)) μ2 := by
  unfold D_X11_least at hD
  refine gs_enter mf_X11_least (Nat.le_of_ble_eq_true rfl) (ls := [.ref 0, gs_J]) rfl (fun p l e R s m args below meth c ad g tyc hK => ?_)
  have hK : KC p R s m args meth c ad g tyc RX11 cX11_least 2 (some .int) 6 := hK
  refine r_aload_n hK d_X11_least_0 rfl rfl ?_
  obtain ⟨v3, u2, e1, hD⟩ := bd_e hD
  refine r_callV (As := []) (st := []) (stk2 := [.int v3]) hK (C_X11_isReady  e1) d_X11_least_1 mf_X11_isReady ml_RX11_206 im_X11_isReady rfl se_10_RX11_X11_isReady kd_0 rfl (Nat.le_of_ble_eq_true rfl) (by decide) ⟨Nat.zero_le _, Nat.zero_le _⟩ rfl rfl ?_
  refine r_if_ne (tgt := 9) hK d_X11_least_4 (by decide) (fun h4 => ?_) (fun h4 => ?_)
  · have hD := if_f hD h4
    refine r_iconst hK d_X11_least_9 ci_0 ?_
    refine r_istore_n hK d_X11_least_10 rfl (by decide) (ls2 := [.ref 0, .int (0 : Int32)]) rfl ?_
    exact TL_X11_least_11 hK  _ _ _  hD
  · have hD := if_t hD h4
    refine r_iconst hK d_X11_least_7 ci_m1 ?_
    cases hD
    exact r_iret hK d_X11_least_8
end S_X11_least
theorem d_X11_runs_0 : gd cX11_runs 0 (.aload_n 0) 1 1 := ⟨by decide +kernel, rfl⟩
theorem d_X11_runs_1 : gd cX11_runs 1 (.invokevirtual 206) 3 4 := ⟨by decide +kernel, rfl⟩
theorem d_X11_runs_4 : gd cX11_runs 4 (.ifCond .eq 22) 3 7 := ⟨by decide +kernel, rfl⟩
theorem d_X11_runs_7 : gd cX11_runs 7 (.iload_n 1) 1 8 := ⟨by decide +kernel, rfl⟩
theorem d_X11_runs_8 : gd cX11_runs 8 (.iconst 0) 1 9 := ⟨by decide +kernel, rfl⟩
theorem d_X11_runs_9 : gd cX11_runs 9 (.bipush 40) 2 11 := ⟨by decide +kernel, rfl⟩
theorem d_X11_runs_11 : gd cX11_runs 11 (.invokestatic 123) 3 14 := ⟨by decide +kernel, rfl⟩
theorem d_X11_runs_14 : gd cX11_runs 14 (.ifCond .eq 12) 3 17 := ⟨by decide +kernel, rfl⟩
theorem d_X11_runs_17 : gd cX11_runs 17 (.iload_n 2) 1 18 := ⟨by decide +kernel, rfl⟩
theorem d_X11_runs_18 : gd cX11_runs 18 (.iconst 0) 1 19 := ⟨by decide +kernel, rfl⟩
theorem d_X11_runs_19 : gd cX11_runs 19 (.iconst 2) 1 20 := ⟨by decide +kernel, rfl⟩
theorem d_X11_runs_20 : gd cX11_runs 20 (.invokestatic 123) 3 23 := ⟨by decide +kernel, rfl⟩
theorem d_X11_runs_23 : gd cX11_runs 23 (.ifCond .ne 6) 3 26 := ⟨by decide +kernel, rfl⟩
theorem d_X11_runs_26 : gd cX11_runs 26 (.ldc 231) 2 28 := ⟨by decide +kernel, rfl⟩
theorem d_X11_runs_28 : gd cX11_runs 28 .ireturn 1 29 := ⟨by decide +kernel, rfl⟩
theorem d_X11_runs_29 : gd cX11_runs 29 (.aload_n 0) 1 30 := ⟨by decide +kernel, rfl⟩
theorem d_X11_runs_30 : gd cX11_runs 30 (.getfield 76) 3 33 := ⟨by decide +kernel, rfl⟩
theorem d_X11_runs_33 : gd cX11_runs 33 (.aload_n 0) 1 34 := ⟨by decide +kernel, rfl⟩
theorem d_X11_runs_34 : gd cX11_runs 34 (.getfield 66) 3 37 := ⟨by decide +kernel, rfl⟩
theorem d_X11_runs_37 : gd cX11_runs 37 (.invokevirtual 278) 3 40 := ⟨by decide +kernel, rfl⟩
theorem d_X11_runs_40 : gd cX11_runs 40 (.iconst 0) 1 41 := ⟨by decide +kernel, rfl⟩
theorem d_X11_runs_41 : gd cX11_runs 41 (.istore_n 3) 1 42 := ⟨by decide +kernel, rfl⟩
theorem d_X11_runs_42 : gd cX11_runs 42 (.iconst 0) 1 43 := ⟨by decide +kernel, rfl⟩
theorem d_X11_runs_43 : gd cX11_runs 43 (.istore 4) 2 45 := ⟨by decide +kernel, rfl⟩
theorem d_X11_runs_45 : gd cX11_runs 45 (.iload_n 3) 1 46 := ⟨by decide +kernel, rfl⟩
theorem d_X11_runs_46 : gd cX11_runs 46 (.bipush 40) 2 48 := ⟨by decide +kernel, rfl⟩
theorem d_X11_runs_48 : gd cX11_runs 48 (.if_icmp .ge 42) 3 51 := ⟨by decide +kernel, rfl⟩
theorem d_X11_runs_51 : gd cX11_runs 51 (.iload 4) 2 53 := ⟨by decide +kernel, rfl⟩
theorem d_X11_runs_53 : gd cX11_runs 53 (.ifCond .ne 37) 3 56 := ⟨by decide +kernel, rfl⟩
theorem d_X11_runs_56 : gd cX11_runs 56 (.aload_n 0) 1 57 := ⟨by decide +kernel, rfl⟩
theorem d_X11_runs_57 : gd cX11_runs 57 (.getfield 76) 3 60 := ⟨by decide +kernel, rfl⟩
theorem d_X11_runs_60 : gd cX11_runs 60 (.iload_n 1) 1 61 := ⟨by decide +kernel, rfl⟩
theorem d_X11_runs_61 : gd cX11_runs 61 (.invokevirtual 210) 3 64 := ⟨by decide +kernel, rfl⟩
theorem d_X11_runs_64 : gd cX11_runs 64 (.ifCond .eq 13) 3 67 := ⟨by decide +kernel, rfl⟩
theorem d_X11_runs_67 : gd cX11_runs 67 (.aload_n 0) 1 68 := ⟨by decide +kernel, rfl⟩
theorem d_X11_runs_68 : gd cX11_runs 68 (.getfield 76) 3 71 := ⟨by decide +kernel, rfl⟩
theorem d_X11_runs_71 : gd cX11_runs 71 (.getfield 262) 3 74 := ⟨by decide +kernel, rfl⟩
theorem d_X11_runs_74 : gd cX11_runs 74 (.ifCond .eq 7) 3 77 := ⟨by decide +kernel, rfl⟩
theorem d_X11_runs_77 : gd cX11_runs 77 (.iconst 1) 1 78 := ⟨by decide +kernel, rfl⟩
theorem d_X11_runs_78 : gd cX11_runs 78 (.goto 4) 3 81 := ⟨by decide +kernel, rfl⟩
theorem d_X11_runs_81 : gd cX11_runs 81 (.iconst 0) 1 82 := ⟨by decide +kernel, rfl⟩
theorem d_X11_runs_82 : gd cX11_runs 82 (.istore 4) 2 84 := ⟨by decide +kernel, rfl⟩
theorem d_X11_runs_84 : gd cX11_runs 84 (.iinc 3 1) 3 87 := ⟨by decide +kernel, rfl⟩
theorem d_X11_runs_87 : gd cX11_runs 87 (.goto (-42)) 3 90 := ⟨by decide +kernel, rfl⟩
theorem d_X11_runs_90 : gd cX11_runs 90 (.iload_n 2) 1 91 := ⟨by decide +kernel, rfl⟩
theorem d_X11_runs_91 : gd cX11_runs 91 (.ifCond .ne 21) 3 94 := ⟨by decide +kernel, rfl⟩
theorem d_X11_runs_94 : gd cX11_runs 94 (.aload_n 0) 1 95 := ⟨by decide +kernel, rfl⟩
theorem d_X11_runs_95 : gd cX11_runs 95 (.getfield 76) 3 98 := ⟨by decide +kernel, rfl⟩
theorem d_X11_runs_98 : gd cX11_runs 98 (.getfield 262) 3 101 := ⟨by decide +kernel, rfl⟩
theorem d_X11_runs_101 : gd cX11_runs 101 (.ifCond .eq 7) 3 104 := ⟨by decide +kernel, rfl⟩
theorem d_X11_runs_104 : gd cX11_runs 104 (.iconst 1) 1 105 := ⟨by decide +kernel, rfl⟩
theorem d_X11_runs_105 : gd cX11_runs 105 (.goto 23) 3 108 := ⟨by decide +kernel, rfl⟩
theorem d_X11_runs_108 : gd cX11_runs 108 (.iconst 0) 1 109 := ⟨by decide +kernel, rfl⟩
theorem d_X11_runs_109 : gd cX11_runs 109 (.goto 19) 3 112 := ⟨by decide +kernel, rfl⟩
theorem d_X11_runs_112 : gd cX11_runs 112 (.iload_n 2) 1 113 := ⟨by decide +kernel, rfl⟩
theorem d_X11_runs_113 : gd cX11_runs 113 (.iconst 1) 1 114 := ⟨by decide +kernel, rfl⟩
theorem d_X11_runs_114 : gd cX11_runs 114 (.if_icmp .ne 7) 3 117 := ⟨by decide +kernel, rfl⟩
theorem d_X11_runs_117 : gd cX11_runs 117 (.iload_n 3) 1 118 := ⟨by decide +kernel, rfl⟩
theorem d_X11_runs_118 : gd cX11_runs 118 (.goto 10) 3 121 := ⟨by decide +kernel, rfl⟩
theorem d_X11_runs_121 : gd cX11_runs 121 (.aload_n 0) 1 122 := ⟨by decide +kernel, rfl⟩
theorem d_X11_runs_122 : gd cX11_runs 122 (.getfield 76) 3 125 := ⟨by decide +kernel, rfl⟩
theorem d_X11_runs_125 : gd cX11_runs 125 (.invokevirtual 256) 3 128 := ⟨by decide +kernel, rfl⟩
theorem d_X11_runs_128 : gd cX11_runs 128 .ireturn 1 129 := ⟨by decide +kernel, rfl⟩
def B_X11_runs_90  (x2 : Int32) (x3 : Int32) (μ : gs_M) : Option (Int32 × gs_M) :=
  if x2 = 0 then (if (gI μ 56 4) = 0 then (some ((0 : Int32), μ)) else (some ((1 : Int32), μ))) else (if x2 = (1 : Int32) then (some (x3, μ)) else (bd (D_X10_lean 56 μ) (fun v5 u4 => some (v5, u4))))
def Bo_X11_runs_45 (q45 : Int32 → Int32 → Int32 → Int32 → gs_M → Option (Int32 × gs_M)) (x1 : Int32) (x2 : Int32) (x3 : Int32) (x4 : Int32) (μ : gs_M) : Option (Int32 × gs_M) :=
  if (40 : Int32) ≤ x3 then (B_X11_runs_90 x2 x3 μ) else (if x4 = 0 then (bd (D_X10_rollBy 56 x1 μ) (fun v5 u4 => if v5 = 0 then (q45 x1 x2 (x3 + (1 : Int32)) (1 : Int32) u4) else (if (gI u4 56 4) = 0 then (q45 x1 x2 (x3 + (1 : Int32)) (0 : Int32) u4) else (q45 x1 x2 (x3 + (1 : Int32)) (1 : Int32) u4)))) else (B_X11_runs_90 x2 x3 μ))
def L_X11_runs_45  : Nat → Int32 → Int32 → Int32 → Int32 → gs_M → Option (Int32 × gs_M)
  | 0 => fun _ _ _ _ _ => none
  | n + 1 => fun x1 x2 x3 x4 μ => Bo_X11_runs_45  (L_X11_runs_45  n) x1 x2 x3 x4 μ
def D_X11_runs (x1 : Int32) (x2 : Int32) (μ : gs_M) : Option (Int32 × gs_M) :=
  bd (D_X11_isReady μ) (fun v3 u2 => if v3 = 0 then (some ((-1000000 : Int32), u2)) else (bd (D_X11_within x1 (0 : Int32) (40 : Int32) u2) (fun v7 u6 => if v7 = 0 then (some ((-1000000 : Int32), u6)) else (bd (D_X11_within x2 (0 : Int32) (2 : Int32) u6) (fun v11 u10 => if v11 = 0 then (some ((-1000000 : Int32), u10)) else (bd0 (D_X10_become 56 26 u10) (fun u14 => L_X11_runs_45 4096 x1 x2 (0 : Int32) (0 : Int32) u14)))))))
section S_X11_runs
variable {p : Program} {l : Launch} {e : Env} {R : Room} {s : State} {m : MethodId} {args : Array Value} {below : List Frame} {meth : Method} {c : Code} {ad : Nat → Nat} {g : va_G} {tyc : Nat → ClassId}
set_option maxRecDepth 20000 in
theorem T_X11_runs_90  (hK : KC p R s m args meth c ad g tyc RX11 cX11_runs 5 (some .int) 5) {r : Int32} {μ2 : gs_M}   {x2 : Int32} {x3 : Int32} {μ : gs_M}  (hD : B_X11_runs_90  x2 x3 μ = some (r, μ2)) : WJ p l e R s m args below meth c 0 0 (MQ below (gs_Q ad g tyc (some (.int r)) μ2) args s 0 0 (gs_A ad)) ad g tyc 5 90 [.ref 0, gs_J, .int x2, .int x3, gs_J] [] μ := by
  unfold B_X11_runs_90 at hD
  refine r_iload_n hK d_X11_runs_90 rfl rfl ?_
  refine r_if_ne (tgt := 112) hK d_X11_runs_91 (by decide) (fun h1 => ?_) (fun h1 => ?_)
  · have hD := if_f hD h1
    refine r_iload_n hK d_X11_runs_112 rfl rfl ?_
    refine r_iconst hK d_X11_runs_113 ci_1 ?_
    refine r_icmp_ne (tgt := 121) hK d_X11_runs_114 (by decide) (fun h2 => ?_) (fun h2 => ?_)
    · have hD := if_f hD h2
      refine r_aload_n hK d_X11_runs_121 rfl rfl ?_
      refine r_getR hK d_X11_runs_122 fl_RX11_76_10 rfl kd_0 ?_
      refine r_ref (b := 56) R0_0_11 ?_
      obtain ⟨v5, u4, e3, hD⟩ := bd_e hD
      refine r_callV (As := []) (st := []) (stk2 := [.int v5]) hK (C_X10_lean kd_56 e3) d_X11_runs_125 mf_X10_lean ml_RX11_256 im_X10_lean rfl se_9_RX10_X10_lean kd_56 rfl (Nat.le_of_ble_eq_true rfl) (by decide) ⟨Nat.zero_le _, Nat.zero_le _⟩ rfl rfl ?_
      cases hD
      exact r_iret hK d_X11_runs_128
    · have hD := if_t hD h2
      refine r_iload_n hK d_X11_runs_117 rfl rfl ?_
      refine r_goto (tgt := 128) hK d_X11_runs_118 (by decide) ?_
      cases hD
      exact r_iret hK d_X11_runs_128
  · have hD := if_t hD h1
    refine r_aload_n hK d_X11_runs_94 rfl rfl ?_
    refine r_getR hK d_X11_runs_95 fl_RX11_76_10 rfl kd_0 ?_
    refine r_ref (b := 56) R0_0_11 ?_
    refine r_getZ hK d_X11_runs_98 fl_RX11_262_9 rfl kd_56 ?_
    refine r_if_eq (tgt := 108) hK d_X11_runs_101 (by decide) (fun h6 => ?_) (fun h6 => ?_)
    · have hD := if_t hD h6
      refine r_iconst hK d_X11_runs_108 ci_0 ?_
      refine r_goto (tgt := 128) hK d_X11_runs_109 (by decide) ?_
      cases hD
      exact r_iret hK d_X11_runs_128
    · have hD := if_f hD h6
      refine r_iconst hK d_X11_runs_104 ci_1 ?_
      refine r_goto (tgt := 128) hK d_X11_runs_105 (by decide) ?_
      cases hD
      exact r_iret hK d_X11_runs_128
set_option maxRecDepth 20000 in
theorem To_X11_runs_45  (hK : KC p R s m args meth c ad g tyc RX11 cX11_runs 5 (some .int) 5) {r : Int32} {μ2 : gs_M} {q45 : Int32 → Int32 → Int32 → Int32 → gs_M → Option (Int32 × gs_M)} (hq45 : ∀ (x1 : Int32) (x2 : Int32) (x3 : Int32) (x4 : Int32) (μ : gs_M), q45 x1 x2 x3 x4 μ = some (r, μ2) → WJ p l e R s m args below meth c 0 0 (MQ below (gs_Q ad g tyc (some (.int r)) μ2) args s 0 0 (gs_A ad)) ad g tyc 5 45 [.ref 0, .int x1, .int x2, .int x3, .int x4] [] μ) {x1 : Int32} {x2 : Int32} {x3 : Int32} {x4 : Int32} {μ : gs_M}  (hD : Bo_X11_runs_45 q45 x1 x2 x3 x4 μ = some (r, μ2)) : WJ p l e R s m args below meth c 0 0 (MQ below (gs_Q ad g tyc (some (.int r)) μ2) args s 0 0 (gs_A ad)) ad g tyc 5 45 [.ref 0, .int x1, .int x2, .int x3, .int x4] [] μ := by
  unfold Bo_X11_runs_45 at hD
  refine r_iload_n hK d_X11_runs_45 rfl rfl ?_
  refine r_bipush hK d_X11_runs_46 cb_40 ?_
  refine r_icmp_ge (tgt := 90) hK d_X11_runs_48 (by decide) (fun h1 => ?_) (fun h1 => ?_)
  · have hD := if_t hD h1
    refine r_junk [true, false, true, true, false] (ls2 := [.ref 0, gs_J, .int x2, .int x3, gs_J]) rfl ?_
    exact T_X11_runs_90 hK   hD
  · have hD := if_f hD h1
    refine r_iload hK d_X11_runs_51 rfl ?_
    refine r_if_ne (tgt := 90) hK d_X11_runs_53 (by decide) (fun h2 => ?_) (fun h2 => ?_)
    · have hD := if_f hD h2
      refine r_junk [true, false, true, true, false] (ls2 := [.ref 0, gs_J, .int x2, .int x3, gs_J]) rfl ?_
      exact T_X11_runs_90 hK   hD
    · have hD := if_t hD h2
      refine r_aload_n hK d_X11_runs_56 rfl rfl ?_
      refine r_getR hK d_X11_runs_57 fl_RX11_76_10 rfl kd_0 ?_
      refine r_ref (b := 56) R0_0_11 ?_
      refine r_iload_n hK d_X11_runs_60 rfl rfl ?_
      obtain ⟨v5, u4, e3, hD⟩ := bd_e hD
      refine r_callV (As := [.int x1]) (st := []) (stk2 := [.int v5]) hK (C_X10_rollBy kd_56 e3) d_X11_runs_61 mf_X10_rollBy ml_RX11_210 im_X10_rollBy rfl se_9_RX10_X10_rollBy kd_56 rfl (Nat.le_of_ble_eq_true rfl) (by decide) ⟨Nat.zero_le _, Nat.zero_le _⟩ rfl rfl ?_
      refine r_if_eq (tgt := 77) hK d_X11_runs_64 (by decide) (fun h6 => ?_) (fun h6 => ?_)
      · have hD := if_t hD h6
        refine r_iconst hK d_X11_runs_77 ci_1 ?_
        refine r_goto (tgt := 82) hK d_X11_runs_78 (by decide) ?_
        refine r_istore hK d_X11_runs_82 (by decide) (ls2 := [.ref 0, .int x1, .int x2, .int x3, .int (1 : Int32)]) rfl ?_
        refine r_iinc hK d_X11_runs_84 rfl (v := x3 + (1 : Int32)) (by rw [ci_1]) (by decide) (ls2 := [.ref 0, .int x1, .int x2, .int (x3 + (1 : Int32)), .int (1 : Int32)]) rfl ?_
        refine r_goto (tgt := 45) hK d_X11_runs_87 (by decide) ?_
        exact hq45 _ _ _ _ _  hD
      · have hD := if_f hD h6
        refine r_aload_n hK d_X11_runs_67 rfl rfl ?_
        refine r_getR hK d_X11_runs_68 fl_RX11_76_10 rfl kd_0 ?_
        refine r_ref (b := 56) R0_0_11 ?_
        refine r_getZ hK d_X11_runs_71 fl_RX11_262_9 rfl kd_56 ?_
        refine r_if_eq (tgt := 81) hK d_X11_runs_74 (by decide) (fun h7 => ?_) (fun h7 => ?_)
        · have hD := if_t hD h7
          refine r_iconst hK d_X11_runs_81 ci_0 ?_
          refine r_istore hK d_X11_runs_82 (by decide) (ls2 := [.ref 0, .int x1, .int x2, .int x3, .int (0 : Int32)]) rfl ?_
          refine r_iinc hK d_X11_runs_84 rfl (v := x3 + (1 : Int32)) (by rw [ci_1]) (by decide) (ls2 := [.ref 0, .int x1, .int x2, .int (x3 + (1 : Int32)), .int (0 : Int32)]) rfl ?_
          refine r_goto (tgt := 45) hK d_X11_runs_87 (by decide) ?_
          exact hq45 _ _ _ _ _  hD
        · have hD := if_f hD h7
          refine r_iconst hK d_X11_runs_77 ci_1 ?_
          refine r_goto (tgt := 82) hK d_X11_runs_78 (by decide) ?_
          refine r_istore hK d_X11_runs_82 (by decide) (ls2 := [.ref 0, .int x1, .int x2, .int x3, .int (1 : Int32)]) rfl ?_
          refine r_iinc hK d_X11_runs_84 rfl (v := x3 + (1 : Int32)) (by rw [ci_1]) (by decide) (ls2 := [.ref 0, .int x1, .int x2, .int (x3 + (1 : Int32)), .int (1 : Int32)]) rfl ?_
          refine r_goto (tgt := 45) hK d_X11_runs_87 (by decide) ?_
          exact hq45 _ _ _ _ _  hD
set_option maxRecDepth 20000 in
theorem TL_X11_runs_45  (hK : KC p R s m args meth c ad g tyc RX11 cX11_runs 5 (some .int) 5) {r : Int32} {μ2 : gs_M}   : ∀ (n : Nat) (x1 : Int32) (x2 : Int32) (x3 : Int32) (x4 : Int32) (μ : gs_M), L_X11_runs_45  n x1 x2 x3 x4 μ = some (r, μ2) → WJ p l e R s m args below meth c 0 0 (MQ below (gs_Q ad g tyc (some (.int r)) μ2) args s 0 0 (gs_A ad)) ad g tyc 5 45 [.ref 0, .int x1, .int x2, .int x3, .int x4] [] μ := by
  intro n
  induction n with
  | zero => intro x1 x2 x3 x4 μ  hD; cases hD
  | succ n ih => intro x1 x2 x3 x4 μ  hD; exact To_X11_runs_45 hK  ih  hD
set_option maxRecDepth 20000 in
theorem C_X11_runs  {x1 : Int32} {x2 : Int32} {μ : gs_M} {r : Int32} {μ2 : gs_M}  (hD : D_X11_runs x1 x2 μ = some (r, μ2)) : CALL yX11_runs cX11_runs 5 (some .int) 5 [.ref 0, .int x1, .int x2] μ (some (.int r)) μ2 := by
  unfold D_X11_runs at hD
  refine gs_enter mf_X11_runs (Nat.le_of_ble_eq_true rfl) (ls := [.ref 0, .int x1, .int x2, gs_J, gs_J]) rfl (fun p l e R s m args below meth c ad g tyc hK => ?_)
  have hK : KC p R s m args meth c ad g tyc RX11 cX11_runs 5 (some .int) 5 := hK
  refine r_aload_n hK d_X11_runs_0 rfl rfl ?_
  obtain ⟨v3, u2, e1, hD⟩ := bd_e hD
  refine r_callV (As := []) (st := []) (stk2 := [.int v3]) hK (C_X11_isReady  e1) d_X11_runs_1 mf_X11_isReady ml_RX11_206 im_X11_isReady rfl se_10_RX11_X11_isReady kd_0 rfl (Nat.le_of_ble_eq_true rfl) (by decide) ⟨Nat.zero_le _, Nat.zero_le _⟩ rfl rfl ?_
  refine r_if_eq (tgt := 26) hK d_X11_runs_4 (by decide) (fun h4 => ?_) (fun h4 => ?_)
  · have hD := if_t hD h4
    refine r_ldc hK d_X11_runs_26 kc_RX11_231 ?_
    cases hD
    exact r_iret hK d_X11_runs_28
  · have hD := if_f hD h4
    refine r_iload_n hK d_X11_runs_7 rfl rfl ?_
    refine r_iconst hK d_X11_runs_8 ci_0 ?_
    refine r_bipush hK d_X11_runs_9 cb_40 ?_
    obtain ⟨v7, u6, e5, hD⟩ := bd_e hD
    refine r_callS (As := [.int x1, .int (0 : Int32), .int (40 : Int32)]) (st := []) (stk2 := [.int v7]) hK (C_X11_within  e5) d_X11_runs_11 mf_X11_within ml_RX11_123 ss_X11_within rfl (Nat.le_of_ble_eq_true rfl) (by decide) ⟨Nat.zero_le _, Nat.zero_le _⟩ rfl rfl ?_
    refine r_if_eq (tgt := 26) hK d_X11_runs_14 (by decide) (fun h8 => ?_) (fun h8 => ?_)
    · have hD := if_t hD h8
      refine r_ldc hK d_X11_runs_26 kc_RX11_231 ?_
      cases hD
      exact r_iret hK d_X11_runs_28
    · have hD := if_f hD h8
      refine r_iload_n hK d_X11_runs_17 rfl rfl ?_
      refine r_iconst hK d_X11_runs_18 ci_0 ?_
      refine r_iconst hK d_X11_runs_19 ci_2 ?_
      obtain ⟨v11, u10, e9, hD⟩ := bd_e hD
      refine r_callS (As := [.int x2, .int (0 : Int32), .int (2 : Int32)]) (st := []) (stk2 := [.int v11]) hK (C_X11_within  e9) d_X11_runs_20 mf_X11_within ml_RX11_123 ss_X11_within rfl (Nat.le_of_ble_eq_true rfl) (by decide) ⟨Nat.zero_le _, Nat.zero_le _⟩ rfl rfl ?_
      refine r_if_ne (tgt := 29) hK d_X11_runs_23 (by decide) (fun h12 => ?_) (fun h12 => ?_)
      · have hD := if_f hD h12
        refine r_aload_n hK d_X11_runs_29 rfl rfl ?_
        refine r_getR hK d_X11_runs_30 fl_RX11_76_10 rfl kd_0 ?_
        refine r_ref (b := 56) R0_0_11 ?_
        refine r_aload_n hK d_X11_runs_33 rfl rfl ?_
        refine r_getR hK d_X11_runs_34 fl_RX11_66_10 rfl kd_0 ?_
        refine r_ref (b := 26) R0_0_8 ?_
        obtain ⟨u14, e13, hD⟩ := bd0_e hD
        refine r_callV (As := [.ref 26]) (st := []) (stk2 := []) hK (C_X10_become kd_56 kd_26 e13) d_X11_runs_37 mf_X10_become ml_RX11_278 im_X10_become rfl se_9_RX10_X10_become kd_56 rfl (Nat.le_of_ble_eq_true rfl) (by decide) ⟨Nat.zero_le _, Nat.zero_le _⟩ rfl rfl ?_
        refine r_iconst hK d_X11_runs_40 ci_0 ?_
        refine r_istore_n hK d_X11_runs_41 rfl (by decide) (ls2 := [.ref 0, .int x1, .int x2, .int (0 : Int32), gs_J]) rfl ?_
        refine r_iconst hK d_X11_runs_42 ci_0 ?_
        refine r_istore hK d_X11_runs_43 (by decide) (ls2 := [.ref 0, .int x1, .int x2, .int (0 : Int32), .int (0 : Int32)]) rfl ?_
        exact TL_X11_runs_45 hK  _ _ _ _ _ _  hD
      · have hD := if_t hD h12
        refine r_ldc hK d_X11_runs_26 kc_RX11_231 ?_
        cases hD
        exact r_iret hK d_X11_runs_28
end S_X11_runs
theorem d_X11_leanWithBallast_0 : gd cX11_leanWithBallast 0 (.aload_n 0) 1 1 := ⟨by decide +kernel, rfl⟩
theorem d_X11_leanWithBallast_1 : gd cX11_leanWithBallast 1 (.getfield 57) 3 4 := ⟨by decide +kernel, rfl⟩
theorem d_X11_leanWithBallast_4 : gd cX11_leanWithBallast 4 (.iload_n 1) 1 5 := ⟨by decide +kernel, rfl⟩
theorem d_X11_leanWithBallast_5 : gd cX11_leanWithBallast 5 (.putfield 160) 3 8 := ⟨by decide +kernel, rfl⟩
theorem d_X11_leanWithBallast_8 : gd cX11_leanWithBallast 8 (.aload_n 0) 1 9 := ⟨by decide +kernel, rfl⟩
theorem d_X11_leanWithBallast_9 : gd cX11_leanWithBallast 9 (.getfield 76) 3 12 := ⟨by decide +kernel, rfl⟩
theorem d_X11_leanWithBallast_12 : gd cX11_leanWithBallast 12 (.aload_n 0) 1 13 := ⟨by decide +kernel, rfl⟩
theorem d_X11_leanWithBallast_13 : gd cX11_leanWithBallast 13 (.getfield 66) 3 16 := ⟨by decide +kernel, rfl⟩
theorem d_X11_leanWithBallast_16 : gd cX11_leanWithBallast 16 (.invokevirtual 278) 3 19 := ⟨by decide +kernel, rfl⟩
theorem d_X11_leanWithBallast_19 : gd cX11_leanWithBallast 19 (.iconst 0) 1 20 := ⟨by decide +kernel, rfl⟩
theorem d_X11_leanWithBallast_20 : gd cX11_leanWithBallast 20 (.istore_n 3) 1 21 := ⟨by decide +kernel, rfl⟩
theorem d_X11_leanWithBallast_21 : gd cX11_leanWithBallast 21 (.iload_n 3) 1 22 := ⟨by decide +kernel, rfl⟩
theorem d_X11_leanWithBallast_22 : gd cX11_leanWithBallast 22 (.iconst 3) 1 23 := ⟨by decide +kernel, rfl⟩
theorem d_X11_leanWithBallast_23 : gd cX11_leanWithBallast 23 (.if_icmp .ge 28) 3 26 := ⟨by decide +kernel, rfl⟩
theorem d_X11_leanWithBallast_26 : gd cX11_leanWithBallast 26 (.aload_n 0) 1 27 := ⟨by decide +kernel, rfl⟩
theorem d_X11_leanWithBallast_27 : gd cX11_leanWithBallast 27 (.getfield 76) 3 30 := ⟨by decide +kernel, rfl⟩
theorem d_X11_leanWithBallast_30 : gd cX11_leanWithBallast 30 (.getfield 262) 3 33 := ⟨by decide +kernel, rfl⟩
theorem d_X11_leanWithBallast_33 : gd cX11_leanWithBallast 33 (.ifCond .ne 18) 3 36 := ⟨by decide +kernel, rfl⟩
theorem d_X11_leanWithBallast_36 : gd cX11_leanWithBallast 36 (.aload_n 0) 1 37 := ⟨by decide +kernel, rfl⟩
theorem d_X11_leanWithBallast_37 : gd cX11_leanWithBallast 37 (.getfield 76) 3 40 := ⟨by decide +kernel, rfl⟩
theorem d_X11_leanWithBallast_40 : gd cX11_leanWithBallast 40 (.iload_n 2) 1 41 := ⟨by decide +kernel, rfl⟩
theorem d_X11_leanWithBallast_41 : gd cX11_leanWithBallast 41 (.invokevirtual 210) 3 44 := ⟨by decide +kernel, rfl⟩
theorem d_X11_leanWithBallast_44 : gd cX11_leanWithBallast 44 .pop 1 45 := ⟨by decide +kernel, rfl⟩
theorem d_X11_leanWithBallast_45 : gd cX11_leanWithBallast 45 (.iinc 3 1) 3 48 := ⟨by decide +kernel, rfl⟩
theorem d_X11_leanWithBallast_48 : gd cX11_leanWithBallast 48 (.goto (-27)) 3 51 := ⟨by decide +kernel, rfl⟩
theorem d_X11_leanWithBallast_51 : gd cX11_leanWithBallast 51 (.aload_n 0) 1 52 := ⟨by decide +kernel, rfl⟩
theorem d_X11_leanWithBallast_52 : gd cX11_leanWithBallast 52 (.getfield 76) 3 55 := ⟨by decide +kernel, rfl⟩
theorem d_X11_leanWithBallast_55 : gd cX11_leanWithBallast 55 (.invokevirtual 256) 3 58 := ⟨by decide +kernel, rfl⟩
theorem d_X11_leanWithBallast_58 : gd cX11_leanWithBallast 58 (.invokestatic 286) 3 61 := ⟨by decide +kernel, rfl⟩
theorem d_X11_leanWithBallast_61 : gd cX11_leanWithBallast 61 .ireturn 1 62 := ⟨by decide +kernel, rfl⟩
def B_X11_leanWithBallast_51   (μ : gs_M) : Option (Int32 × gs_M) :=
  bd (D_X10_lean 56 μ) (fun v3 u2 => lt1 (if 0 ≤ v3 then v3 else 0 - v3) (fun v4 => some (v4, u2)))
def Bo_X11_leanWithBallast_21 (q21 : Int32 → Int32 → gs_M → Option (Int32 × gs_M)) (x2 : Int32) (x3 : Int32) (μ : gs_M) : Option (Int32 × gs_M) :=
  if (3 : Int32) ≤ x3 then (B_X11_leanWithBallast_51 μ) else (if (gI μ 56 4) = 0 then (bd (D_X10_rollBy 56 x2 μ) (fun v5 u4 => q21 x2 (x3 + (1 : Int32)) u4)) else (B_X11_leanWithBallast_51 μ))
def L_X11_leanWithBallast_21  : Nat → Int32 → Int32 → gs_M → Option (Int32 × gs_M)
  | 0 => fun _ _ _ => none
  | n + 1 => fun x2 x3 μ => Bo_X11_leanWithBallast_21  (L_X11_leanWithBallast_21  n) x2 x3 μ
def D_X11_leanWithBallast (x1 : Int32) (x2 : Int32) (μ : gs_M) : Option (Int32 × gs_M) :=
  lt1 (sI μ 25 1 x1) (fun u1 => bd0 (D_X10_become 56 26 u1) (fun u3 => L_X11_leanWithBallast_21 4096 x2 (0 : Int32) u3))
section S_X11_leanWithBallast
variable {p : Program} {l : Launch} {e : Env} {R : Room} {s : State} {m : MethodId} {args : Array Value} {below : List Frame} {meth : Method} {c : Code} {ad : Nat → Nat} {g : va_G} {tyc : Nat → ClassId}
set_option maxRecDepth 20000 in
theorem T_X11_leanWithBallast_51  (hK : KC p R s m args meth c ad g tyc RX11 cX11_leanWithBallast 4 (some .int) 5) {r : Int32} {μ2 : gs_M}    {μ : gs_M}  (hD : B_X11_leanWithBallast_51   μ = some (r, μ2)) : WJ p l e R s m args below meth c 0 0 (MQ below (gs_Q ad g tyc (some (.int r)) μ2) args s 0 0 (gs_A ad)) ad g tyc 4 51 [.ref 0, gs_J, gs_J, gs_J] [] μ := by
  unfold B_X11_leanWithBallast_51 at hD
  refine r_aload_n hK d_X11_leanWithBallast_51 rfl rfl ?_
  refine r_getR hK d_X11_leanWithBallast_52 fl_RX11_76_10 rfl kd_0 ?_
  refine r_ref (b := 56) R0_0_11 ?_
  obtain ⟨v3, u2, e1, hD⟩ := bd_e hD
  refine r_callV (As := []) (st := []) (stk2 := [.int v3]) hK (C_X10_lean kd_56 e1) d_X11_leanWithBallast_55 mf_X10_lean ml_RX11_256 im_X10_lean rfl se_9_RX10_X10_lean kd_56 rfl (Nat.le_of_ble_eq_true rfl) (by decide) ⟨Nat.zero_le _, Nat.zero_le _⟩ rfl rfl ?_
  refine r_mabs hK d_X11_leanWithBallast_58 mm_RX11_286 ms_abs mi_0 mc_abs (Nat.le_of_ble_eq_true rfl) (by decide) ⟨Nat.zero_le _, Nat.zero_le _⟩ ?_
  refine r_lti hD (fun v4 hD => ?_)
  cases hD
  exact r_iret hK d_X11_leanWithBallast_61
set_option maxRecDepth 20000 in
theorem To_X11_leanWithBallast_21  (hK : KC p R s m args meth c ad g tyc RX11 cX11_leanWithBallast 4 (some .int) 5) {r : Int32} {μ2 : gs_M} {q21 : Int32 → Int32 → gs_M → Option (Int32 × gs_M)} (hq21 : ∀ (x2 : Int32) (x3 : Int32) (μ : gs_M), q21 x2 x3 μ = some (r, μ2) → WJ p l e R s m args below meth c 0 0 (MQ below (gs_Q ad g tyc (some (.int r)) μ2) args s 0 0 (gs_A ad)) ad g tyc 4 21 [.ref 0, gs_J, .int x2, .int x3] [] μ) {x2 : Int32} {x3 : Int32} {μ : gs_M}  (hD : Bo_X11_leanWithBallast_21 q21 x2 x3 μ = some (r, μ2)) : WJ p l e R s m args below meth c 0 0 (MQ below (gs_Q ad g tyc (some (.int r)) μ2) args s 0 0 (gs_A ad)) ad g tyc 4 21 [.ref 0, gs_J, .int x2, .int x3] [] μ := by
  unfold Bo_X11_leanWithBallast_21 at hD
  refine r_iload_n hK d_X11_leanWithBallast_21 rfl rfl ?_
  refine r_iconst hK d_X11_leanWithBallast_22 ci_3 ?_
  refine r_icmp_ge (tgt := 51) hK d_X11_leanWithBallast_23 (by decide) (fun h1 => ?_) (fun h1 => ?_)
  · have hD := if_t hD h1
    refine r_junk [true, false, false, false] (ls2 := [.ref 0, gs_J, gs_J, gs_J]) rfl ?_
    exact T_X11_leanWithBallast_51 hK   hD
  · have hD := if_f hD h1
    refine r_aload_n hK d_X11_leanWithBallast_26 rfl rfl ?_
    refine r_getR hK d_X11_leanWithBallast_27 fl_RX11_76_10 rfl kd_0 ?_
    refine r_ref (b := 56) R0_0_11 ?_
    refine r_getZ hK d_X11_leanWithBallast_30 fl_RX11_262_9 rfl kd_56 ?_
    refine r_if_ne (tgt := 51) hK d_X11_leanWithBallast_33 (by decide) (fun h2 => ?_) (fun h2 => ?_)
    · have hD := if_f hD h2
      refine r_junk [true, false, false, false] (ls2 := [.ref 0, gs_J, gs_J, gs_J]) rfl ?_
      exact T_X11_leanWithBallast_51 hK   hD
    · have hD := if_t hD h2
      refine r_aload_n hK d_X11_leanWithBallast_36 rfl rfl ?_
      refine r_getR hK d_X11_leanWithBallast_37 fl_RX11_76_10 rfl kd_0 ?_
      refine r_ref (b := 56) R0_0_11 ?_
      refine r_iload_n hK d_X11_leanWithBallast_40 rfl rfl ?_
      obtain ⟨v5, u4, e3, hD⟩ := bd_e hD
      refine r_callV (As := [.int x2]) (st := []) (stk2 := [.int v5]) hK (C_X10_rollBy kd_56 e3) d_X11_leanWithBallast_41 mf_X10_rollBy ml_RX11_210 im_X10_rollBy rfl se_9_RX10_X10_rollBy kd_56 rfl (Nat.le_of_ble_eq_true rfl) (by decide) ⟨Nat.zero_le _, Nat.zero_le _⟩ rfl rfl ?_
      refine r_pop hK d_X11_leanWithBallast_44 rfl ?_
      refine r_iinc hK d_X11_leanWithBallast_45 rfl (v := x3 + (1 : Int32)) (by rw [ci_1]) (by decide) (ls2 := [.ref 0, gs_J, .int x2, .int (x3 + (1 : Int32))]) rfl ?_
      refine r_goto (tgt := 21) hK d_X11_leanWithBallast_48 (by decide) ?_
      exact hq21 _ _ _  hD
set_option maxRecDepth 20000 in
theorem TL_X11_leanWithBallast_21  (hK : KC p R s m args meth c ad g tyc RX11 cX11_leanWithBallast 4 (some .int) 5) {r : Int32} {μ2 : gs_M}   : ∀ (n : Nat) (x2 : Int32) (x3 : Int32) (μ : gs_M), L_X11_leanWithBallast_21  n x2 x3 μ = some (r, μ2) → WJ p l e R s m args below meth c 0 0 (MQ below (gs_Q ad g tyc (some (.int r)) μ2) args s 0 0 (gs_A ad)) ad g tyc 4 21 [.ref 0, gs_J, .int x2, .int x3] [] μ := by
  intro n
  induction n with
  | zero => intro x2 x3 μ  hD; cases hD
  | succ n ih => intro x2 x3 μ  hD; exact To_X11_leanWithBallast_21 hK  ih  hD
set_option maxRecDepth 20000 in
theorem C_X11_leanWithBallast  {x1 : Int32} {x2 : Int32} {μ : gs_M} {r : Int32} {μ2 : gs_M}  (hD : D_X11_leanWithBallast x1 x2 μ = some (r, μ2)) : CALL yX11_leanWithBallast cX11_leanWithBallast 4 (some .int) 5 [.ref 0, .int x1, .int x2] μ (some (.int r)) μ2 := by
  unfold D_X11_leanWithBallast at hD
  refine gs_enter mf_X11_leanWithBallast (Nat.le_of_ble_eq_true rfl) (ls := [.ref 0, .int x1, .int x2, gs_J]) rfl (fun p l e R s m args below meth c ad g tyc hK => ?_)
  have hK : KC p R s m args meth c ad g tyc RX11 cX11_leanWithBallast 4 (some .int) 5 := hK
  refine r_aload_n hK d_X11_leanWithBallast_0 rfl rfl ?_
  refine r_getR hK d_X11_leanWithBallast_1 fl_RX11_57_10 rfl kd_0 ?_
  refine r_ref (b := 25) R0_0_7 ?_
  refine r_iload_n hK d_X11_leanWithBallast_4 rfl rfl ?_
  refine r_putI hK d_X11_leanWithBallast_5 fl_RX11_160_6 rfl rfl kd_25 ?_
  refine r_ltm hD (fun u1 hD => ?_)
  refine r_aload_n hK d_X11_leanWithBallast_8 rfl rfl ?_
  refine r_getR hK d_X11_leanWithBallast_9 fl_RX11_76_10 rfl kd_0 ?_
  refine r_ref (b := 56) R0_0_11 ?_
  refine r_aload_n hK d_X11_leanWithBallast_12 rfl rfl ?_
  refine r_getR hK d_X11_leanWithBallast_13 fl_RX11_66_10 rfl kd_0 ?_
  refine r_ref (b := 26) R0_0_8 ?_
  obtain ⟨u3, e2, hD⟩ := bd0_e hD
  refine r_callV (As := [.ref 26]) (st := []) (stk2 := []) hK (C_X10_become kd_56 kd_26 e2) d_X11_leanWithBallast_16 mf_X10_become ml_RX11_278 im_X10_become rfl se_9_RX10_X10_become kd_56 rfl (Nat.le_of_ble_eq_true rfl) (by decide) ⟨Nat.zero_le _, Nat.zero_le _⟩ rfl rfl ?_
  refine r_iconst hK d_X11_leanWithBallast_19 ci_0 ?_
  refine r_istore_n hK d_X11_leanWithBallast_20 rfl (by decide) (ls2 := [.ref 0, .int x1, .int x2, .int (0 : Int32)]) rfl ?_
  refine r_junk [true, false, true, true] (ls2 := [.ref 0, gs_J, .int x2, .int (0 : Int32)]) rfl ?_
  exact TL_X11_leanWithBallast_21 hK  _ _ _ _  hD
end S_X11_leanWithBallast
theorem d_X11_ballast_0 : gd cX11_ballast 0 (.aload_n 0) 1 1 := ⟨by decide +kernel, rfl⟩
theorem d_X11_ballast_1 : gd cX11_ballast 1 (.invokevirtual 206) 3 4 := ⟨by decide +kernel, rfl⟩
theorem d_X11_ballast_4 : gd cX11_ballast 4 (.ifCond .eq 13) 3 7 := ⟨by decide +kernel, rfl⟩
theorem d_X11_ballast_7 : gd cX11_ballast 7 (.iload_n 1) 1 8 := ⟨by decide +kernel, rfl⟩
theorem d_X11_ballast_8 : gd cX11_ballast 8 (.iconst 0) 1 9 := ⟨by decide +kernel, rfl⟩
theorem d_X11_ballast_9 : gd cX11_ballast 9 (.bipush 40) 2 11 := ⟨by decide +kernel, rfl⟩
theorem d_X11_ballast_11 : gd cX11_ballast 11 (.invokestatic 123) 3 14 := ⟨by decide +kernel, rfl⟩
theorem d_X11_ballast_14 : gd cX11_ballast 14 (.ifCond .ne 6) 3 17 := ⟨by decide +kernel, rfl⟩
theorem d_X11_ballast_17 : gd cX11_ballast 17 (.ldc 231) 2 19 := ⟨by decide +kernel, rfl⟩
theorem d_X11_ballast_19 : gd cX11_ballast 19 .ireturn 1 20 := ⟨by decide +kernel, rfl⟩
theorem d_X11_ballast_20 : gd cX11_ballast 20 (.aload_n 0) 1 21 := ⟨by decide +kernel, rfl⟩
theorem d_X11_ballast_21 : gd cX11_ballast 21 (.getfield 57) 3 24 := ⟨by decide +kernel, rfl⟩
theorem d_X11_ballast_24 : gd cX11_ballast 24 (.getfield 160) 3 27 := ⟨by decide +kernel, rfl⟩
theorem d_X11_ballast_27 : gd cX11_ballast 27 (.istore_n 2) 1 28 := ⟨by decide +kernel, rfl⟩
theorem d_X11_ballast_28 : gd cX11_ballast 28 (.iconst 0) 1 29 := ⟨by decide +kernel, rfl⟩
theorem d_X11_ballast_29 : gd cX11_ballast 29 (.istore_n 3) 1 30 := ⟨by decide +kernel, rfl⟩
theorem d_X11_ballast_30 : gd cX11_ballast 30 (.aload_n 0) 1 31 := ⟨by decide +kernel, rfl⟩
theorem d_X11_ballast_31 : gd cX11_ballast 31 (.iconst 0) 1 32 := ⟨by decide +kernel, rfl⟩
theorem d_X11_ballast_32 : gd cX11_ballast 32 (.iload_n 1) 1 33 := ⟨by decide +kernel, rfl⟩
theorem d_X11_ballast_33 : gd cX11_ballast 33 (.invokevirtual 282) 3 36 := ⟨by decide +kernel, rfl⟩
theorem d_X11_ballast_36 : gd cX11_ballast 36 (.istore 4) 2 38 := ⟨by decide +kernel, rfl⟩
theorem d_X11_ballast_38 : gd cX11_ballast 38 (.sipush (-999)) 3 41 := ⟨by decide +kernel, rfl⟩
theorem d_X11_ballast_41 : gd cX11_ballast 41 (.istore 5) 2 43 := ⟨by decide +kernel, rfl⟩
theorem d_X11_ballast_43 : gd cX11_ballast 43 (.iload 5) 2 45 := ⟨by decide +kernel, rfl⟩
theorem d_X11_ballast_45 : gd cX11_ballast 45 (.sipush 999) 3 48 := ⟨by decide +kernel, rfl⟩
theorem d_X11_ballast_48 : gd cX11_ballast 48 (.if_icmp .gt 51) 3 51 := ⟨by decide +kernel, rfl⟩
theorem d_X11_ballast_51 : gd cX11_ballast 51 (.aload_n 0) 1 52 := ⟨by decide +kernel, rfl⟩
theorem d_X11_ballast_52 : gd cX11_ballast 52 (.iload 5) 2 54 := ⟨by decide +kernel, rfl⟩
theorem d_X11_ballast_54 : gd cX11_ballast 54 (.iload_n 1) 1 55 := ⟨by decide +kernel, rfl⟩
theorem d_X11_ballast_55 : gd cX11_ballast 55 (.invokevirtual 282) 3 58 := ⟨by decide +kernel, rfl⟩
theorem d_X11_ballast_58 : gd cX11_ballast 58 (.istore 6) 2 60 := ⟨by decide +kernel, rfl⟩
theorem d_X11_ballast_60 : gd cX11_ballast 60 (.iload 6) 2 62 := ⟨by decide +kernel, rfl⟩
theorem d_X11_ballast_62 : gd cX11_ballast 62 (.iload 4) 2 64 := ⟨by decide +kernel, rfl⟩
theorem d_X11_ballast_64 : gd cX11_ballast 64 (.if_icmp .lt 22) 3 67 := ⟨by decide +kernel, rfl⟩
theorem d_X11_ballast_67 : gd cX11_ballast 67 (.iload 6) 2 69 := ⟨by decide +kernel, rfl⟩
theorem d_X11_ballast_69 : gd cX11_ballast 69 (.iload 4) 2 71 := ⟨by decide +kernel, rfl⟩
theorem d_X11_ballast_71 : gd cX11_ballast 71 (.if_icmp .ne 22) 3 74 := ⟨by decide +kernel, rfl⟩
theorem d_X11_ballast_74 : gd cX11_ballast 74 (.iload 5) 2 76 := ⟨by decide +kernel, rfl⟩
theorem d_X11_ballast_76 : gd cX11_ballast 76 (.invokestatic 286) 3 79 := ⟨by decide +kernel, rfl⟩
theorem d_X11_ballast_79 : gd cX11_ballast 79 (.iload_n 3) 1 80 := ⟨by decide +kernel, rfl⟩
theorem d_X11_ballast_80 : gd cX11_ballast 80 (.invokestatic 286) 3 83 := ⟨by decide +kernel, rfl⟩
theorem d_X11_ballast_83 : gd cX11_ballast 83 (.if_icmp .ge 10) 3 86 := ⟨by decide +kernel, rfl⟩
theorem d_X11_ballast_86 : gd cX11_ballast 86 (.iload 5) 2 88 := ⟨by decide +kernel, rfl⟩
theorem d_X11_ballast_88 : gd cX11_ballast 88 (.istore_n 3) 1 89 := ⟨by decide +kernel, rfl⟩
theorem d_X11_ballast_89 : gd cX11_ballast 89 (.iload 6) 2 91 := ⟨by decide +kernel, rfl⟩
theorem d_X11_ballast_91 : gd cX11_ballast 91 (.istore 4) 2 93 := ⟨by decide +kernel, rfl⟩
theorem d_X11_ballast_93 : gd cX11_ballast 93 (.iinc 5 100) 3 96 := ⟨by decide +kernel, rfl⟩
theorem d_X11_ballast_96 : gd cX11_ballast 96 (.goto (-53)) 3 99 := ⟨by decide +kernel, rfl⟩
theorem d_X11_ballast_99 : gd cX11_ballast 99 (.aload_n 0) 1 100 := ⟨by decide +kernel, rfl⟩
theorem d_X11_ballast_100 : gd cX11_ballast 100 (.getfield 57) 3 103 := ⟨by decide +kernel, rfl⟩
theorem d_X11_ballast_103 : gd cX11_ballast 103 (.iload_n 2) 1 104 := ⟨by decide +kernel, rfl⟩
theorem d_X11_ballast_104 : gd cX11_ballast 104 (.putfield 160) 3 107 := ⟨by decide +kernel, rfl⟩
theorem d_X11_ballast_107 : gd cX11_ballast 107 (.iload_n 3) 1 108 := ⟨by decide +kernel, rfl⟩
theorem d_X11_ballast_108 : gd cX11_ballast 108 .ireturn 1 109 := ⟨by decide +kernel, rfl⟩
def B_X11_ballast_86 (q43 : Int32 → Int32 → Int32 → Int32 → Int32 → gs_M → Option (Int32 × gs_M)) (x1 : Int32) (x2 : Int32) (x5 : Int32) (x6 : Int32) (μ : gs_M) : Option (Int32 × gs_M) :=
  q43 x1 x2 x5 x6 (x5 + (100 : Int32)) μ
def Bo_X11_ballast_43 (q43 : Int32 → Int32 → Int32 → Int32 → Int32 → gs_M → Option (Int32 × gs_M)) (x1 : Int32) (x2 : Int32) (x3 : Int32) (x4 : Int32) (x5 : Int32) (μ : gs_M) : Option (Int32 × gs_M) :=
  if (999 : Int32) < x5 then (lt1 (sI μ 25 1 x2) (fun u2 => some (x3, u2))) else (bd (D_X11_leanWithBallast x5 x1 μ) (fun v5 u4 => if v5 < x4 then (B_X11_ballast_86 q43 x1 x2 x5 v5 u4) else (if v5 = x4 then (lt1 (if 0 ≤ x5 then x5 else 0 - x5) (fun v8 => lt1 (if 0 ≤ x3 then x3 else 0 - x3) (fun v9 => if v9 ≤ v8 then (q43 x1 x2 x3 x4 (x5 + (100 : Int32)) u4) else (B_X11_ballast_86 q43 x1 x2 x5 v5 u4)))) else (q43 x1 x2 x3 x4 (x5 + (100 : Int32)) u4))))
def L_X11_ballast_43  : Nat → Int32 → Int32 → Int32 → Int32 → Int32 → gs_M → Option (Int32 × gs_M)
  | 0 => fun _ _ _ _ _ _ => none
  | n + 1 => fun x1 x2 x3 x4 x5 μ => Bo_X11_ballast_43  (L_X11_ballast_43  n) x1 x2 x3 x4 x5 μ
def D_X11_ballast (x1 : Int32) (μ : gs_M) : Option (Int32 × gs_M) :=
  bd (D_X11_isReady μ) (fun v3 u2 => if v3 = 0 then (some ((-1000000 : Int32), u2)) else (bd (D_X11_within x1 (0 : Int32) (40 : Int32) u2) (fun v7 u6 => if v7 = 0 then (some ((-1000000 : Int32), u6)) else (lt1 (gI u6 25 1) (fun v9 => bd (D_X11_leanWithBallast (0 : Int32) x1 u6) (fun v12 u11 => L_X11_ballast_43 4096 x1 v9 (0 : Int32) v12 (-999 : Int32) u11))))))
section S_X11_ballast
variable {p : Program} {l : Launch} {e : Env} {R : Room} {s : State} {m : MethodId} {args : Array Value} {below : List Frame} {meth : Method} {c : Code} {ad : Nat → Nat} {g : va_G} {tyc : Nat → ClassId}
set_option maxRecDepth 20000 in
theorem T_X11_ballast_86  (hK : KC p R s m args meth c ad g tyc RX11 cX11_ballast 7 (some .int) 6) {r : Int32} {μ2 : gs_M} {q43 : Int32 → Int32 → Int32 → Int32 → Int32 → gs_M → Option (Int32 × gs_M)} (hq43 : ∀ (x1 : Int32) (x2 : Int32) (x3 : Int32) (x4 : Int32) (x5 : Int32) (μ : gs_M), q43 x1 x2 x3 x4 x5 μ = some (r, μ2) → WJ p l e R s m args below meth c 0 0 (MQ below (gs_Q ad g tyc (some (.int r)) μ2) args s 0 0 (gs_A ad)) ad g tyc 7 43 [.ref 0, .int x1, .int x2, .int x3, .int x4, .int x5, gs_J] [] μ) {x1 : Int32} {x2 : Int32} {x5 : Int32} {x6 : Int32} {μ : gs_M}  (hD : B_X11_ballast_86 q43 x1 x2 x5 x6 μ = some (r, μ2)) : WJ p l e R s m args below meth c 0 0 (MQ below (gs_Q ad g tyc (some (.int r)) μ2) args s 0 0 (gs_A ad)) ad g tyc 7 86 [.ref 0, .int x1, .int x2, gs_J, gs_J, .int x5, .int x6] [] μ := by
  unfold B_X11_ballast_86 at hD
  refine r_iload hK d_X11_ballast_86 rfl ?_
  refine r_istore_n hK d_X11_ballast_88 rfl (by decide) (ls2 := [.ref 0, .int x1, .int x2, .int x5, gs_J, .int x5, .int x6]) rfl ?_
  refine r_iload hK d_X11_ballast_89 rfl ?_
  refine r_istore hK d_X11_ballast_91 (by decide) (ls2 := [.ref 0, .int x1, .int x2, .int x5, .int x6, .int x5, .int x6]) rfl ?_
  refine r_iinc hK d_X11_ballast_93 rfl (v := x5 + (100 : Int32)) (by rw [ci_100]) (by decide) (ls2 := [.ref 0, .int x1, .int x2, .int x5, .int x6, .int (x5 + (100 : Int32)), .int x6]) rfl ?_
  refine r_goto (tgt := 43) hK d_X11_ballast_96 (by decide) ?_
  refine r_junk [true, true, true, true, true, true, false] (ls2 := [.ref 0, .int x1, .int x2, .int x5, .int x6, .int (x5 + (100 : Int32)), gs_J]) rfl ?_
  exact hq43 _ _ _ _ _ _  hD
set_option maxRecDepth 20000 in
theorem To_X11_ballast_43  (hK : KC p R s m args meth c ad g tyc RX11 cX11_ballast 7 (some .int) 6) {r : Int32} {μ2 : gs_M} {q43 : Int32 → Int32 → Int32 → Int32 → Int32 → gs_M → Option (Int32 × gs_M)} (hq43 : ∀ (x1 : Int32) (x2 : Int32) (x3 : Int32) (x4 : Int32) (x5 : Int32) (μ : gs_M), q43 x1 x2 x3 x4 x5 μ = some (r, μ2) → WJ p l e R s m args below meth c 0 0 (MQ below (gs_Q ad g tyc (some (.int r)) μ2) args s 0 0 (gs_A ad)) ad g tyc 7 43 [.ref 0, .int x1, .int x2, .int x3, .int x4, .int x5, gs_J] [] μ) {x1 : Int32} {x2 : Int32} {x3 : Int32} {x4 : Int32} {x5 : Int32} {μ : gs_M}  (hD : Bo_X11_ballast_43 q43 x1 x2 x3 x4 x5 μ = some (r, μ2)) : WJ p l e R s m args below meth c 0 0 (MQ below (gs_Q ad g tyc (some (.int r)) μ2) args s 0 0 (gs_A ad)) ad g tyc 7 43 [.ref 0, .int x1, .int x2, .int x3, .int x4, .int x5, gs_J] [] μ := by
  unfold Bo_X11_ballast_43 at hD
  refine r_iload hK d_X11_ballast_43 rfl ?_
  refine r_sipush hK d_X11_ballast_45 cs_999 ?_
  refine r_icmp_gt (tgt := 99) hK d_X11_ballast_48 (by decide) (fun h1 => ?_) (fun h1 => ?_)
  · have hD := if_t hD h1
    refine r_aload_n hK d_X11_ballast_99 rfl rfl ?_
    refine r_getR hK d_X11_ballast_100 fl_RX11_57_10 rfl kd_0 ?_
    refine r_ref (b := 25) R0_0_7 ?_
    refine r_iload_n hK d_X11_ballast_103 rfl rfl ?_
    refine r_putI hK d_X11_ballast_104 fl_RX11_160_6 rfl rfl kd_25 ?_
    refine r_ltm hD (fun u2 hD => ?_)
    refine r_iload_n hK d_X11_ballast_107 rfl rfl ?_
    cases hD
    exact r_iret hK d_X11_ballast_108
  · have hD := if_f hD h1
    refine r_aload_n hK d_X11_ballast_51 rfl rfl ?_
    refine r_iload hK d_X11_ballast_52 rfl ?_
    refine r_iload_n hK d_X11_ballast_54 rfl rfl ?_
    obtain ⟨v5, u4, e3, hD⟩ := bd_e hD
    refine r_callV (As := [.int x5, .int x1]) (st := []) (stk2 := [.int v5]) hK (C_X11_leanWithBallast  e3) d_X11_ballast_55 mf_X11_leanWithBallast ml_RX11_282 im_X11_leanWithBallast rfl se_10_RX11_X11_leanWithBallast kd_0 rfl (Nat.le_of_ble_eq_true rfl) (by decide) ⟨Nat.zero_le _, Nat.zero_le _⟩ rfl rfl ?_
    refine r_istore hK d_X11_ballast_58 (by decide) (ls2 := [.ref 0, .int x1, .int x2, .int x3, .int x4, .int x5, .int v5]) rfl ?_
    refine r_iload hK d_X11_ballast_60 rfl ?_
    refine r_iload hK d_X11_ballast_62 rfl ?_
    refine r_icmp_lt (tgt := 86) hK d_X11_ballast_64 (by decide) (fun h6 => ?_) (fun h6 => ?_)
    · have hD := if_t hD h6
      refine r_junk [true, true, true, false, false, true, true] (ls2 := [.ref 0, .int x1, .int x2, gs_J, gs_J, .int x5, .int v5]) rfl ?_
      exact T_X11_ballast_86 hK hq43  hD
    · have hD := if_f hD h6
      refine r_iload hK d_X11_ballast_67 rfl ?_
      refine r_iload hK d_X11_ballast_69 rfl ?_
      refine r_icmp_ne (tgt := 93) hK d_X11_ballast_71 (by decide) (fun h7 => ?_) (fun h7 => ?_)
      · have hD := if_f hD h7
        refine r_iinc hK d_X11_ballast_93 rfl (v := x5 + (100 : Int32)) (by rw [ci_100]) (by decide) (ls2 := [.ref 0, .int x1, .int x2, .int x3, .int x4, .int (x5 + (100 : Int32)), .int v5]) rfl ?_
        refine r_goto (tgt := 43) hK d_X11_ballast_96 (by decide) ?_
        refine r_junk [true, true, true, true, true, true, false] (ls2 := [.ref 0, .int x1, .int x2, .int x3, .int x4, .int (x5 + (100 : Int32)), gs_J]) rfl ?_
        exact hq43 _ _ _ _ _ _  hD
      · have hD := if_t hD h7
        refine r_iload hK d_X11_ballast_74 rfl ?_
        refine r_mabs hK d_X11_ballast_76 mm_RX11_286 ms_abs mi_0 mc_abs (Nat.le_of_ble_eq_true rfl) (by decide) ⟨Nat.zero_le _, Nat.zero_le _⟩ ?_
        refine r_lti hD (fun v8 hD => ?_)
        refine r_iload_n hK d_X11_ballast_79 rfl rfl ?_
        refine r_mabs hK d_X11_ballast_80 mm_RX11_286 ms_abs mi_0 mc_abs (Nat.le_of_ble_eq_true rfl) (by decide) ⟨Nat.zero_le _, Nat.zero_le _⟩ ?_
        refine r_lti hD (fun v9 hD => ?_)
        refine r_icmp_ge (tgt := 93) hK d_X11_ballast_83 (by decide) (fun h10 => ?_) (fun h10 => ?_)
        · have hD := if_t hD h10
          refine r_iinc hK d_X11_ballast_93 rfl (v := x5 + (100 : Int32)) (by rw [ci_100]) (by decide) (ls2 := [.ref 0, .int x1, .int x2, .int x3, .int x4, .int (x5 + (100 : Int32)), .int v5]) rfl ?_
          refine r_goto (tgt := 43) hK d_X11_ballast_96 (by decide) ?_
          refine r_junk [true, true, true, true, true, true, false] (ls2 := [.ref 0, .int x1, .int x2, .int x3, .int x4, .int (x5 + (100 : Int32)), gs_J]) rfl ?_
          exact hq43 _ _ _ _ _ _  hD
        · have hD := if_f hD h10
          refine r_junk [true, true, true, false, false, true, true] (ls2 := [.ref 0, .int x1, .int x2, gs_J, gs_J, .int x5, .int v5]) rfl ?_
          exact T_X11_ballast_86 hK hq43  hD
set_option maxRecDepth 20000 in
theorem TL_X11_ballast_43  (hK : KC p R s m args meth c ad g tyc RX11 cX11_ballast 7 (some .int) 6) {r : Int32} {μ2 : gs_M}   : ∀ (n : Nat) (x1 : Int32) (x2 : Int32) (x3 : Int32) (x4 : Int32) (x5 : Int32) (μ : gs_M), L_X11_ballast_43  n x1 x2 x3 x4 x5 μ = some (r, μ2) → WJ p l e R s m args below meth c 0 0 (MQ below (gs_Q ad g tyc (some (.int r)) μ2) args s 0 0 (gs_A ad)) ad g tyc 7 43 [.ref 0, .int x1, .int x2, .int x3, .int x4, .int x5, gs_J] [] μ := by
  intro n
  induction n with
  | zero => intro x1 x2 x3 x4 x5 μ  hD; cases hD
  | succ n ih => intro x1 x2 x3 x4 x5 μ  hD; exact To_X11_ballast_43 hK  ih  hD
set_option maxRecDepth 20000 in
theorem C_X11_ballast  {x1 : Int32} {μ : gs_M} {r : Int32} {μ2 : gs_M}  (hD : D_X11_ballast x1 μ = some (r, μ2)) : CALL yX11_ballast cX11_ballast 7 (some .int) 6 [.ref 0, .int x1] μ (some (.int r)) μ2 := by
  unfold D_X11_ballast at hD
  refine gs_enter mf_X11_ballast (Nat.le_of_ble_eq_true rfl) (ls := [.ref 0, .int x1, gs_J, gs_J, gs_J, gs_J, gs_J]) rfl (fun p l e R s m args below meth c ad g tyc hK => ?_)
  have hK : KC p R s m args meth c ad g tyc RX11 cX11_ballast 7 (some .int) 6 := hK
  refine r_aload_n hK d_X11_ballast_0 rfl rfl ?_
  obtain ⟨v3, u2, e1, hD⟩ := bd_e hD
  refine r_callV (As := []) (st := []) (stk2 := [.int v3]) hK (C_X11_isReady  e1) d_X11_ballast_1 mf_X11_isReady ml_RX11_206 im_X11_isReady rfl se_10_RX11_X11_isReady kd_0 rfl (Nat.le_of_ble_eq_true rfl) (by decide) ⟨Nat.zero_le _, Nat.zero_le _⟩ rfl rfl ?_
  refine r_if_eq (tgt := 17) hK d_X11_ballast_4 (by decide) (fun h4 => ?_) (fun h4 => ?_)
  · have hD := if_t hD h4
    refine r_ldc hK d_X11_ballast_17 kc_RX11_231 ?_
    cases hD
    exact r_iret hK d_X11_ballast_19
  · have hD := if_f hD h4
    refine r_iload_n hK d_X11_ballast_7 rfl rfl ?_
    refine r_iconst hK d_X11_ballast_8 ci_0 ?_
    refine r_bipush hK d_X11_ballast_9 cb_40 ?_
    obtain ⟨v7, u6, e5, hD⟩ := bd_e hD
    refine r_callS (As := [.int x1, .int (0 : Int32), .int (40 : Int32)]) (st := []) (stk2 := [.int v7]) hK (C_X11_within  e5) d_X11_ballast_11 mf_X11_within ml_RX11_123 ss_X11_within rfl (Nat.le_of_ble_eq_true rfl) (by decide) ⟨Nat.zero_le _, Nat.zero_le _⟩ rfl rfl ?_
    refine r_if_ne (tgt := 20) hK d_X11_ballast_14 (by decide) (fun h8 => ?_) (fun h8 => ?_)
    · have hD := if_f hD h8
      refine r_aload_n hK d_X11_ballast_20 rfl rfl ?_
      refine r_getR hK d_X11_ballast_21 fl_RX11_57_10 rfl kd_0 ?_
      refine r_ref (b := 25) R0_0_7 ?_
      refine r_getI hK d_X11_ballast_24 fl_RX11_160_6 rfl kd_25 ?_
      refine r_lti hD (fun v9 hD => ?_)
      refine r_istore_n hK d_X11_ballast_27 rfl (by decide) (ls2 := [.ref 0, .int x1, .int v9, gs_J, gs_J, gs_J, gs_J]) rfl ?_
      refine r_iconst hK d_X11_ballast_28 ci_0 ?_
      refine r_istore_n hK d_X11_ballast_29 rfl (by decide) (ls2 := [.ref 0, .int x1, .int v9, .int (0 : Int32), gs_J, gs_J, gs_J]) rfl ?_
      refine r_aload_n hK d_X11_ballast_30 rfl rfl ?_
      refine r_iconst hK d_X11_ballast_31 ci_0 ?_
      refine r_iload_n hK d_X11_ballast_32 rfl rfl ?_
      obtain ⟨v12, u11, e10, hD⟩ := bd_e hD
      refine r_callV (As := [.int (0 : Int32), .int x1]) (st := []) (stk2 := [.int v12]) hK (C_X11_leanWithBallast  e10) d_X11_ballast_33 mf_X11_leanWithBallast ml_RX11_282 im_X11_leanWithBallast rfl se_10_RX11_X11_leanWithBallast kd_0 rfl (Nat.le_of_ble_eq_true rfl) (by decide) ⟨Nat.zero_le _, Nat.zero_le _⟩ rfl rfl ?_
      refine r_istore hK d_X11_ballast_36 (by decide) (ls2 := [.ref 0, .int x1, .int v9, .int (0 : Int32), .int v12, gs_J, gs_J]) rfl ?_
      refine r_sipush hK d_X11_ballast_38 cs_m999 ?_
      refine r_istore hK d_X11_ballast_41 (by decide) (ls2 := [.ref 0, .int x1, .int v9, .int (0 : Int32), .int v12, .int (-999 : Int32), gs_J]) rfl ?_
      exact TL_X11_ballast_43 hK  _ _ _ _ _ _ _  hD
    · have hD := if_t hD h8
      refine r_ldc hK d_X11_ballast_17 kc_RX11_231 ?_
      cases hD
      exact r_iret hK d_X11_ballast_19
end S_X11_ballast
theorem d_X11_course_0 : gd cX11_course 0 (.iload_n 1) 1 1 := ⟨by decide +kernel, rfl⟩
theorem d_X11_course_1 : gd cX11_course 1 (.iconst 0) 1 2 := ⟨by decide +kernel, rfl⟩
theorem d_X11_course_2 : gd cX11_course 2 (.bipush 30) 2 4 := ⟨by decide +kernel, rfl⟩
theorem d_X11_course_4 : gd cX11_course 4 (.invokestatic 123) 3 7 := ⟨by decide +kernel, rfl⟩
theorem d_X11_course_7 : gd cX11_course 7 (.ifCond .eq 25) 3 10 := ⟨by decide +kernel, rfl⟩
theorem d_X11_course_10 : gd cX11_course 10 (.iload_n 2) 1 11 := ⟨by decide +kernel, rfl⟩
theorem d_X11_course_11 : gd cX11_course 11 (.iconst 1) 1 12 := ⟨by decide +kernel, rfl⟩
theorem d_X11_course_12 : gd cX11_course 12 (.bipush 9) 2 14 := ⟨by decide +kernel, rfl⟩
theorem d_X11_course_14 : gd cX11_course 14 (.invokestatic 123) 3 17 := ⟨by decide +kernel, rfl⟩
theorem d_X11_course_17 : gd cX11_course 17 (.ifCond .eq 15) 3 20 := ⟨by decide +kernel, rfl⟩
theorem d_X11_course_20 : gd cX11_course 20 (.aload_n 0) 1 21 := ⟨by decide +kernel, rfl⟩
theorem d_X11_course_21 : gd cX11_course 21 (.getfield 82) 3 24 := ⟨by decide +kernel, rfl⟩
theorem d_X11_course_24 : gd cX11_course 24 (.iload_n 1) 1 25 := ⟨by decide +kernel, rfl⟩
theorem d_X11_course_25 : gd cX11_course 25 (.iload_n 2) 1 26 := ⟨by decide +kernel, rfl⟩
theorem d_X11_course_26 : gd cX11_course 26 (.invokevirtual 291) 3 29 := ⟨by decide +kernel, rfl⟩
theorem d_X11_course_29 : gd cX11_course 29 (.goto 4) 3 32 := ⟨by decide +kernel, rfl⟩
theorem d_X11_course_32 : gd cX11_course 32 (.iconst (-1)) 1 33 := ⟨by decide +kernel, rfl⟩
theorem d_X11_course_33 : gd cX11_course 33 .ireturn 1 34 := ⟨by decide +kernel, rfl⟩
def B_X11_course_32   (μ : gs_M) : Option (Int32 × gs_M) :=
  some ((-1 : Int32), μ)
def D_X11_course (x1 : Int32) (x2 : Int32) (μ : gs_M) : Option (Int32 × gs_M) :=
  bd (D_X11_within x1 (0 : Int32) (30 : Int32) μ) (fun v3 u2 => if v3 = 0 then (B_X11_course_32 u2) else (bd (D_X11_within x2 (1 : Int32) (9 : Int32) u2) (fun v7 u6 => if v7 = 0 then (B_X11_course_32 u6) else (bd (D_X3_keep 66 x1 x2 u6) (fun v11 u10 => some (v11, u10))))))
section S_X11_course
variable {p : Program} {l : Launch} {e : Env} {R : Room} {s : State} {m : MethodId} {args : Array Value} {below : List Frame} {meth : Method} {c : Code} {ad : Nat → Nat} {g : va_G} {tyc : Nat → ClassId}
set_option maxRecDepth 20000 in
theorem T_X11_course_32  (hK : KC p R s m args meth c ad g tyc RX11 cX11_course 3 (some .int) 1) {r : Int32} {μ2 : gs_M}    {μ : gs_M}  (hD : B_X11_course_32   μ = some (r, μ2)) : WJ p l e R s m args below meth c 0 0 (MQ below (gs_Q ad g tyc (some (.int r)) μ2) args s 0 0 (gs_A ad)) ad g tyc 3 32 [gs_J, gs_J, gs_J] [] μ := by
  unfold B_X11_course_32 at hD
  refine r_iconst hK d_X11_course_32 ci_m1 ?_
  cases hD
  exact r_iret hK d_X11_course_33
set_option maxRecDepth 20000 in
theorem C_X11_course  {x1 : Int32} {x2 : Int32} {μ : gs_M} {r : Int32} {μ2 : gs_M}  (hD : D_X11_course x1 x2 μ = some (r, μ2)) : CALL yX11_course cX11_course 3 (some .int) 1 [.ref 0, .int x1, .int x2] μ (some (.int r)) μ2 := by
  unfold D_X11_course at hD
  refine gs_enter mf_X11_course (Nat.le_of_ble_eq_true rfl) (ls := [.ref 0, .int x1, .int x2]) rfl (fun p l e R s m args below meth c ad g tyc hK => ?_)
  have hK : KC p R s m args meth c ad g tyc RX11 cX11_course 3 (some .int) 1 := hK
  refine r_iload_n hK d_X11_course_0 rfl rfl ?_
  refine r_iconst hK d_X11_course_1 ci_0 ?_
  refine r_bipush hK d_X11_course_2 cb_30 ?_
  obtain ⟨v3, u2, e1, hD⟩ := bd_e hD
  refine r_callS (As := [.int x1, .int (0 : Int32), .int (30 : Int32)]) (st := []) (stk2 := [.int v3]) hK (C_X11_within  e1) d_X11_course_4 mf_X11_within ml_RX11_123 ss_X11_within rfl (Nat.le_of_ble_eq_true rfl) (by decide) ⟨Nat.zero_le _, Nat.zero_le _⟩ rfl rfl ?_
  refine r_if_eq (tgt := 32) hK d_X11_course_7 (by decide) (fun h4 => ?_) (fun h4 => ?_)
  · have hD := if_t hD h4
    refine r_junk [false, false, false] (ls2 := [gs_J, gs_J, gs_J]) rfl ?_
    exact T_X11_course_32 hK   hD
  · have hD := if_f hD h4
    refine r_iload_n hK d_X11_course_10 rfl rfl ?_
    refine r_iconst hK d_X11_course_11 ci_1 ?_
    refine r_bipush hK d_X11_course_12 cb_9 ?_
    obtain ⟨v7, u6, e5, hD⟩ := bd_e hD
    refine r_callS (As := [.int x2, .int (1 : Int32), .int (9 : Int32)]) (st := []) (stk2 := [.int v7]) hK (C_X11_within  e5) d_X11_course_14 mf_X11_within ml_RX11_123 ss_X11_within rfl (Nat.le_of_ble_eq_true rfl) (by decide) ⟨Nat.zero_le _, Nat.zero_le _⟩ rfl rfl ?_
    refine r_if_eq (tgt := 32) hK d_X11_course_17 (by decide) (fun h8 => ?_) (fun h8 => ?_)
    · have hD := if_t hD h8
      refine r_junk [false, false, false] (ls2 := [gs_J, gs_J, gs_J]) rfl ?_
      exact T_X11_course_32 hK   hD
    · have hD := if_f hD h8
      refine r_aload_n hK d_X11_course_20 rfl rfl ?_
      refine r_getR hK d_X11_course_21 fl_RX11_82_10 rfl kd_0 ?_
      refine r_ref (b := 66) R0_0_12 ?_
      refine r_iload_n hK d_X11_course_24 rfl rfl ?_
      refine r_iload_n hK d_X11_course_25 rfl rfl ?_
      obtain ⟨v11, u10, e9, hD⟩ := bd_e hD
      refine r_callV (As := [.int x1, .int x2]) (st := []) (stk2 := [.int v11]) hK (C_X3_keep kd_66 e9) d_X11_course_26 mf_X3_keep ml_RX11_291 im_X3_keep rfl se_3_RX3_X3_keep kd_66 rfl (Nat.le_of_ble_eq_true rfl) (by decide) ⟨Nat.zero_le _, Nat.zero_le _⟩ rfl rfl ?_
      refine r_goto (tgt := 33) hK d_X11_course_29 (by decide) ?_
      cases hD
      exact r_iret hK d_X11_course_33
end S_X11_course
theorem d_X11_best_0 : gd cX11_best 0 (.aload_n 0) 1 1 := ⟨by decide +kernel, rfl⟩
theorem d_X11_best_1 : gd cX11_best 1 (.invokevirtual 206) 3 4 := ⟨by decide +kernel, rfl⟩
theorem d_X11_best_4 : gd cX11_best 4 (.ifCond .eq 12) 3 7 := ⟨by decide +kernel, rfl⟩
theorem d_X11_best_7 : gd cX11_best 7 (.iload_n 1) 1 8 := ⟨by decide +kernel, rfl⟩
theorem d_X11_best_8 : gd cX11_best 8 (.iconst 0) 1 9 := ⟨by decide +kernel, rfl⟩
theorem d_X11_best_9 : gd cX11_best 9 (.iconst 1) 1 10 := ⟨by decide +kernel, rfl⟩
theorem d_X11_best_10 : gd cX11_best 10 (.invokestatic 123) 3 13 := ⟨by decide +kernel, rfl⟩
theorem d_X11_best_13 : gd cX11_best 13 (.ifCond .ne 6) 3 16 := ⟨by decide +kernel, rfl⟩
theorem d_X11_best_16 : gd cX11_best 16 (.ldc 231) 2 18 := ⟨by decide +kernel, rfl⟩
theorem d_X11_best_18 : gd cX11_best 18 .ireturn 1 19 := ⟨by decide +kernel, rfl⟩
theorem d_X11_best_19 : gd cX11_best 19 (.iconst (-1)) 1 20 := ⟨by decide +kernel, rfl⟩
theorem d_X11_best_20 : gd cX11_best 20 (.istore_n 2) 1 21 := ⟨by decide +kernel, rfl⟩
theorem d_X11_best_21 : gd cX11_best 21 (.iconst 0) 1 22 := ⟨by decide +kernel, rfl⟩
theorem d_X11_best_22 : gd cX11_best 22 (.istore_n 3) 1 23 := ⟨by decide +kernel, rfl⟩
theorem d_X11_best_23 : gd cX11_best 23 (.iconst 0) 1 24 := ⟨by decide +kernel, rfl⟩
theorem d_X11_best_24 : gd cX11_best 24 (.istore 4) 2 26 := ⟨by decide +kernel, rfl⟩
theorem d_X11_best_26 : gd cX11_best 26 (.iload 4) 2 28 := ⟨by decide +kernel, rfl⟩
theorem d_X11_best_28 : gd cX11_best 28 (.aload_n 0) 1 29 := ⟨by decide +kernel, rfl⟩
theorem d_X11_best_29 : gd cX11_best 29 (.getfield 82) 3 32 := ⟨by decide +kernel, rfl⟩
theorem d_X11_best_32 : gd cX11_best 32 (.getfield 293) 3 35 := ⟨by decide +kernel, rfl⟩
theorem d_X11_best_35 : gd cX11_best 35 (.if_icmp .ge 89) 3 38 := ⟨by decide +kernel, rfl⟩
theorem d_X11_best_38 : gd cX11_best 38 (.aload_n 0) 1 39 := ⟨by decide +kernel, rfl⟩
theorem d_X11_best_39 : gd cX11_best 39 (.getfield 76) 3 42 := ⟨by decide +kernel, rfl⟩
theorem d_X11_best_42 : gd cX11_best 42 (.aload_n 0) 1 43 := ⟨by decide +kernel, rfl⟩
theorem d_X11_best_43 : gd cX11_best 43 (.getfield 66) 3 46 := ⟨by decide +kernel, rfl⟩
theorem d_X11_best_46 : gd cX11_best 46 (.invokevirtual 278) 3 49 := ⟨by decide +kernel, rfl⟩
theorem d_X11_best_49 : gd cX11_best 49 (.aload_n 0) 1 50 := ⟨by decide +kernel, rfl⟩
theorem d_X11_best_50 : gd cX11_best 50 (.getfield 76) 3 53 := ⟨by decide +kernel, rfl⟩
theorem d_X11_best_53 : gd cX11_best 53 (.aload_n 0) 1 54 := ⟨by decide +kernel, rfl⟩
theorem d_X11_best_54 : gd cX11_best 54 (.getfield 82) 3 57 := ⟨by decide +kernel, rfl⟩
theorem d_X11_best_57 : gd cX11_best 57 (.getfield 294) 3 60 := ⟨by decide +kernel, rfl⟩
theorem d_X11_best_60 : gd cX11_best 60 (.iload 4) 2 62 := ⟨by decide +kernel, rfl⟩
theorem d_X11_best_62 : gd cX11_best 62 .iaload 1 63 := ⟨by decide +kernel, rfl⟩
theorem d_X11_best_63 : gd cX11_best 63 (.aload_n 0) 1 64 := ⟨by decide +kernel, rfl⟩
theorem d_X11_best_64 : gd cX11_best 64 (.getfield 82) 3 67 := ⟨by decide +kernel, rfl⟩
theorem d_X11_best_67 : gd cX11_best 67 (.getfield 297) 3 70 := ⟨by decide +kernel, rfl⟩
theorem d_X11_best_70 : gd cX11_best 70 (.iload 4) 2 72 := ⟨by decide +kernel, rfl⟩
theorem d_X11_best_72 : gd cX11_best 72 .iaload 1 73 := ⟨by decide +kernel, rfl⟩
theorem d_X11_best_73 : gd cX11_best 73 (.invokevirtual 213) 3 76 := ⟨by decide +kernel, rfl⟩
theorem d_X11_best_76 : gd cX11_best 76 (.aload_n 0) 1 77 := ⟨by decide +kernel, rfl⟩
theorem d_X11_best_77 : gd cX11_best 77 (.getfield 76) 3 80 := ⟨by decide +kernel, rfl⟩
theorem d_X11_best_80 : gd cX11_best 80 (.invokevirtual 256) 3 83 := ⟨by decide +kernel, rfl⟩
theorem d_X11_best_83 : gd cX11_best 83 (.istore 5) 2 85 := ⟨by decide +kernel, rfl⟩
theorem d_X11_best_85 : gd cX11_best 85 (.aload_n 0) 1 86 := ⟨by decide +kernel, rfl⟩
theorem d_X11_best_86 : gd cX11_best 86 (.getfield 76) 3 89 := ⟨by decide +kernel, rfl⟩
theorem d_X11_best_89 : gd cX11_best 89 (.getfield 262) 3 92 := ⟨by decide +kernel, rfl⟩
theorem d_X11_best_92 : gd cX11_best 92 (.ifCond .ne 26) 3 95 := ⟨by decide +kernel, rfl⟩
theorem d_X11_best_95 : gd cX11_best 95 (.iload_n 2) 1 96 := ⟨by decide +kernel, rfl⟩
theorem d_X11_best_96 : gd cX11_best 96 (.iconst (-1)) 1 97 := ⟨by decide +kernel, rfl⟩
theorem d_X11_best_97 : gd cX11_best 97 (.if_icmp .eq 15) 3 100 := ⟨by decide +kernel, rfl⟩
theorem d_X11_best_100 : gd cX11_best 100 (.iload 5) 2 102 := ⟨by decide +kernel, rfl⟩
theorem d_X11_best_102 : gd cX11_best 102 (.invokestatic 286) 3 105 := ⟨by decide +kernel, rfl⟩
theorem d_X11_best_105 : gd cX11_best 105 (.iload_n 3) 1 106 := ⟨by decide +kernel, rfl⟩
theorem d_X11_best_106 : gd cX11_best 106 (.invokestatic 286) 3 109 := ⟨by decide +kernel, rfl⟩
theorem d_X11_best_109 : gd cX11_best 109 (.if_icmp .ge 9) 3 112 := ⟨by decide +kernel, rfl⟩
theorem d_X11_best_112 : gd cX11_best 112 (.iload 4) 2 114 := ⟨by decide +kernel, rfl⟩
theorem d_X11_best_114 : gd cX11_best 114 (.istore_n 2) 1 115 := ⟨by decide +kernel, rfl⟩
theorem d_X11_best_115 : gd cX11_best 115 (.iload 5) 2 117 := ⟨by decide +kernel, rfl⟩
theorem d_X11_best_117 : gd cX11_best 117 (.istore_n 3) 1 118 := ⟨by decide +kernel, rfl⟩
theorem d_X11_best_118 : gd cX11_best 118 (.iinc 4 1) 3 121 := ⟨by decide +kernel, rfl⟩
theorem d_X11_best_121 : gd cX11_best 121 (.goto (-95)) 3 124 := ⟨by decide +kernel, rfl⟩
theorem d_X11_best_124 : gd cX11_best 124 (.iload_n 2) 1 125 := ⟨by decide +kernel, rfl⟩
theorem d_X11_best_125 : gd cX11_best 125 (.iconst (-1)) 1 126 := ⟨by decide +kernel, rfl⟩
theorem d_X11_best_126 : gd cX11_best 126 (.if_icmp .ne 6) 3 129 := ⟨by decide +kernel, rfl⟩
theorem d_X11_best_129 : gd cX11_best 129 (.ldc 231) 2 131 := ⟨by decide +kernel, rfl⟩
theorem d_X11_best_131 : gd cX11_best 131 .ireturn 1 132 := ⟨by decide +kernel, rfl⟩
theorem d_X11_best_132 : gd cX11_best 132 (.iload_n 1) 1 133 := ⟨by decide +kernel, rfl⟩
theorem d_X11_best_133 : gd cX11_best 133 (.ifCond .ne 7) 3 136 := ⟨by decide +kernel, rfl⟩
theorem d_X11_best_136 : gd cX11_best 136 (.iload_n 2) 1 137 := ⟨by decide +kernel, rfl⟩
theorem d_X11_best_137 : gd cX11_best 137 (.goto 4) 3 140 := ⟨by decide +kernel, rfl⟩
theorem d_X11_best_140 : gd cX11_best 140 (.iload_n 3) 1 141 := ⟨by decide +kernel, rfl⟩
theorem d_X11_best_141 : gd cX11_best 141 .ireturn 1 142 := ⟨by decide +kernel, rfl⟩
def B_X11_best_112 (q26 : Int32 → Int32 → Int32 → Int32 → gs_M → Option (Int32 × gs_M)) (x1 : Int32) (x4 : Int32) (x5 : Int32) (μ : gs_M) : Option (Int32 × gs_M) :=
  q26 x1 x4 x5 (x4 + (1 : Int32)) μ
def Bo_X11_best_26 (q26 : Int32 → Int32 → Int32 → Int32 → gs_M → Option (Int32 × gs_M)) (x1 : Int32) (x2 : Int32) (x3 : Int32) (x4 : Int32) (μ : gs_M) : Option (Int32 × gs_M) :=
  if (gI μ 66 2) ≤ x4 then (if x2 = (-1 : Int32) then (some ((-1000000 : Int32), μ)) else (if x1 = 0 then (some (x2, μ)) else (some (x3, μ)))) else (bd0 (D_X10_become 56 26 μ) (fun u5 => ck (inb x4 6) (ck (inb x4 6) (bd0 (D_X10_sail 56 (gI u5 (66 + 1) (Int32.toNatClampNeg x4)) (gI u5 (66 + 2) (Int32.toNatClampNeg x4)) u5) (fun u9 => bd (D_X10_lean 56 u9) (fun v12 u11 => if (gI u11 56 4) = 0 then (if x2 = (-1 : Int32) then (B_X11_best_112 q26 x1 x4 v12 u11) else (lt1 (if 0 ≤ v12 then v12 else 0 - v12) (fun v15 => lt1 (if 0 ≤ x3 then x3 else 0 - x3) (fun v16 => if v16 ≤ v15 then (q26 x1 x2 x3 (x4 + (1 : Int32)) u11) else (B_X11_best_112 q26 x1 x4 v12 u11))))) else (q26 x1 x2 x3 (x4 + (1 : Int32)) u11)))))))
def L_X11_best_26  : Nat → Int32 → Int32 → Int32 → Int32 → gs_M → Option (Int32 × gs_M)
  | 0 => fun _ _ _ _ _ => none
  | n + 1 => fun x1 x2 x3 x4 μ => Bo_X11_best_26  (L_X11_best_26  n) x1 x2 x3 x4 μ
def D_X11_best (x1 : Int32) (μ : gs_M) : Option (Int32 × gs_M) :=
  bd (D_X11_isReady μ) (fun v3 u2 => if v3 = 0 then (some ((-1000000 : Int32), u2)) else (bd (D_X11_within x1 (0 : Int32) (1 : Int32) u2) (fun v7 u6 => if v7 = 0 then (some ((-1000000 : Int32), u6)) else (L_X11_best_26 4096 x1 (-1 : Int32) (0 : Int32) (0 : Int32) u6))))
section S_X11_best
variable {p : Program} {l : Launch} {e : Env} {R : Room} {s : State} {m : MethodId} {args : Array Value} {below : List Frame} {meth : Method} {c : Code} {ad : Nat → Nat} {g : va_G} {tyc : Nat → ClassId}
set_option maxRecDepth 20000 in
theorem T_X11_best_112  (hK : KC p R s m args meth c ad g tyc RX11 cX11_best 6 (some .int) 6) {r : Int32} {μ2 : gs_M} {q26 : Int32 → Int32 → Int32 → Int32 → gs_M → Option (Int32 × gs_M)} (hq26 : ∀ (x1 : Int32) (x2 : Int32) (x3 : Int32) (x4 : Int32) (μ : gs_M), q26 x1 x2 x3 x4 μ = some (r, μ2) → WJ p l e R s m args below meth c 0 0 (MQ below (gs_Q ad g tyc (some (.int r)) μ2) args s 0 0 (gs_A ad)) ad g tyc 6 26 [.ref 0, .int x1, .int x2, .int x3, .int x4, gs_J] [] μ) {x1 : Int32} {x4 : Int32} {x5 : Int32} {μ : gs_M}  (hD : B_X11_best_112 q26 x1 x4 x5 μ = some (r, μ2)) : WJ p l e R s m args below meth c 0 0 (MQ below (gs_Q ad g tyc (some (.int r)) μ2) args s 0 0 (gs_A ad)) ad g tyc 6 112 [.ref 0, .int x1, gs_J, gs_J, .int x4, .int x5] [] μ := by
  unfold B_X11_best_112 at hD
  refine r_iload hK d_X11_best_112 rfl ?_
  refine r_istore_n hK d_X11_best_114 rfl (by decide) (ls2 := [.ref 0, .int x1, .int x4, gs_J, .int x4, .int x5]) rfl ?_
  refine r_iload hK d_X11_best_115 rfl ?_
  refine r_istore_n hK d_X11_best_117 rfl (by decide) (ls2 := [.ref 0, .int x1, .int x4, .int x5, .int x4, .int x5]) rfl ?_
  refine r_iinc hK d_X11_best_118 rfl (v := x4 + (1 : Int32)) (by rw [ci_1]) (by decide) (ls2 := [.ref 0, .int x1, .int x4, .int x5, .int (x4 + (1 : Int32)), .int x5]) rfl ?_
  refine r_goto (tgt := 26) hK d_X11_best_121 (by decide) ?_
  refine r_junk [true, true, true, true, true, false] (ls2 := [.ref 0, .int x1, .int x4, .int x5, .int (x4 + (1 : Int32)), gs_J]) rfl ?_
  exact hq26 _ _ _ _ _  hD
set_option maxRecDepth 20000 in
theorem To_X11_best_26  (hK : KC p R s m args meth c ad g tyc RX11 cX11_best 6 (some .int) 6) {r : Int32} {μ2 : gs_M} {q26 : Int32 → Int32 → Int32 → Int32 → gs_M → Option (Int32 × gs_M)} (hq26 : ∀ (x1 : Int32) (x2 : Int32) (x3 : Int32) (x4 : Int32) (μ : gs_M), q26 x1 x2 x3 x4 μ = some (r, μ2) → WJ p l e R s m args below meth c 0 0 (MQ below (gs_Q ad g tyc (some (.int r)) μ2) args s 0 0 (gs_A ad)) ad g tyc 6 26 [.ref 0, .int x1, .int x2, .int x3, .int x4, gs_J] [] μ) {x1 : Int32} {x2 : Int32} {x3 : Int32} {x4 : Int32} {μ : gs_M}  (hD : Bo_X11_best_26 q26 x1 x2 x3 x4 μ = some (r, μ2)) : WJ p l e R s m args below meth c 0 0 (MQ below (gs_Q ad g tyc (some (.int r)) μ2) args s 0 0 (gs_A ad)) ad g tyc 6 26 [.ref 0, .int x1, .int x2, .int x3, .int x4, gs_J] [] μ := by
  unfold Bo_X11_best_26 at hD
  refine r_iload hK d_X11_best_26 rfl ?_
  refine r_aload_n hK d_X11_best_28 rfl rfl ?_
  refine r_getR hK d_X11_best_29 fl_RX11_82_10 rfl kd_0 ?_
  refine r_ref (b := 66) R0_0_12 ?_
  refine r_getI hK d_X11_best_32 fl_RX11_293_3 rfl kd_66 ?_
  refine r_icmp_ge (tgt := 124) hK d_X11_best_35 (by decide) (fun h1 => ?_) (fun h1 => ?_)
  · have hD := if_t hD h1
    refine r_iload_n hK d_X11_best_124 rfl rfl ?_
    refine r_iconst hK d_X11_best_125 ci_m1 ?_
    refine r_icmp_ne (tgt := 132) hK d_X11_best_126 (by decide) (fun h2 => ?_) (fun h2 => ?_)
    · have hD := if_f hD h2
      refine r_iload_n hK d_X11_best_132 rfl rfl ?_
      refine r_if_ne (tgt := 140) hK d_X11_best_133 (by decide) (fun h3 => ?_) (fun h3 => ?_)
      · have hD := if_f hD h3
        refine r_iload_n hK d_X11_best_140 rfl rfl ?_
        cases hD
        exact r_iret hK d_X11_best_141
      · have hD := if_t hD h3
        refine r_iload_n hK d_X11_best_136 rfl rfl ?_
        refine r_goto (tgt := 141) hK d_X11_best_137 (by decide) ?_
        cases hD
        exact r_iret hK d_X11_best_141
    · have hD := if_t hD h2
      refine r_ldc hK d_X11_best_129 kc_RX11_231 ?_
      cases hD
      exact r_iret hK d_X11_best_131
  · have hD := if_f hD h1
    refine r_aload_n hK d_X11_best_38 rfl rfl ?_
    refine r_getR hK d_X11_best_39 fl_RX11_76_10 rfl kd_0 ?_
    refine r_ref (b := 56) R0_0_11 ?_
    refine r_aload_n hK d_X11_best_42 rfl rfl ?_
    refine r_getR hK d_X11_best_43 fl_RX11_66_10 rfl kd_0 ?_
    refine r_ref (b := 26) R0_0_8 ?_
    obtain ⟨u5, e4, hD⟩ := bd0_e hD
    refine r_callV (As := [.ref 26]) (st := []) (stk2 := []) hK (C_X10_become kd_56 kd_26 e4) d_X11_best_46 mf_X10_become ml_RX11_278 im_X10_become rfl se_9_RX10_X10_become kd_56 rfl (Nat.le_of_ble_eq_true rfl) (by decide) ⟨Nat.zero_le _, Nat.zero_le _⟩ rfl rfl ?_
    refine r_aload_n hK d_X11_best_49 rfl rfl ?_
    refine r_getR hK d_X11_best_50 fl_RX11_76_10 rfl kd_0 ?_
    refine r_ref (b := 56) R0_0_11 ?_
    refine r_aload_n hK d_X11_best_53 rfl rfl ?_
    refine r_getR hK d_X11_best_54 fl_RX11_82_10 rfl kd_0 ?_
    refine r_ref (b := 66) R0_0_12 ?_
    refine r_getR hK d_X11_best_57 fl_RX11_294_3 rfl kd_66 ?_
    refine r_ref (b := (66 + 1)) ((ly_pairs _ kd_66).1.1) ?_
    refine r_iload hK d_X11_best_60 rfl ?_
    obtain ⟨h6, hD⟩ := ck_e hD
    refine r_iald hK d_X11_best_62 ((ly_pairs _ kd_66).1.2.1) ((ly_pairs _ kd_66).1.2.2) (inb_in h6) ?_
    refine r_aload_n hK d_X11_best_63 rfl rfl ?_
    refine r_getR hK d_X11_best_64 fl_RX11_82_10 rfl kd_0 ?_
    refine r_ref (b := 66) R0_0_12 ?_
    refine r_getR hK d_X11_best_67 fl_RX11_297_3 rfl kd_66 ?_
    refine r_ref (b := (66 + 2)) ((ly_pairs _ kd_66).2.1) ?_
    refine r_iload hK d_X11_best_70 rfl ?_
    obtain ⟨h7, hD⟩ := ck_e hD
    refine r_iald hK d_X11_best_72 ((ly_pairs _ kd_66).2.2.1) ((ly_pairs _ kd_66).2.2.2) (inb_in h7) ?_
    obtain ⟨u9, e8, hD⟩ := bd0_e hD
    refine r_callV (As := [.int (gI u5 (66 + 1) (Int32.toNatClampNeg x4)), .int (gI u5 (66 + 2) (Int32.toNatClampNeg x4))]) (st := []) (stk2 := []) hK (C_X10_sail kd_56 e8) d_X11_best_73 mf_X10_sail ml_RX11_213 im_X10_sail rfl se_9_RX10_X10_sail kd_56 rfl (Nat.le_of_ble_eq_true rfl) (by decide) ⟨Nat.zero_le _, Nat.zero_le _⟩ rfl rfl ?_
    refine r_aload_n hK d_X11_best_76 rfl rfl ?_
    refine r_getR hK d_X11_best_77 fl_RX11_76_10 rfl kd_0 ?_
    refine r_ref (b := 56) R0_0_11 ?_
    obtain ⟨v12, u11, e10, hD⟩ := bd_e hD
    refine r_callV (As := []) (st := []) (stk2 := [.int v12]) hK (C_X10_lean kd_56 e10) d_X11_best_80 mf_X10_lean ml_RX11_256 im_X10_lean rfl se_9_RX10_X10_lean kd_56 rfl (Nat.le_of_ble_eq_true rfl) (by decide) ⟨Nat.zero_le _, Nat.zero_le _⟩ rfl rfl ?_
    refine r_istore hK d_X11_best_83 (by decide) (ls2 := [.ref 0, .int x1, .int x2, .int x3, .int x4, .int v12]) rfl ?_
    refine r_aload_n hK d_X11_best_85 rfl rfl ?_
    refine r_getR hK d_X11_best_86 fl_RX11_76_10 rfl kd_0 ?_
    refine r_ref (b := 56) R0_0_11 ?_
    refine r_getZ hK d_X11_best_89 fl_RX11_262_9 rfl kd_56 ?_
    refine r_if_ne (tgt := 118) hK d_X11_best_92 (by decide) (fun h13 => ?_) (fun h13 => ?_)
    · have hD := if_f hD h13
      refine r_iinc hK d_X11_best_118 rfl (v := x4 + (1 : Int32)) (by rw [ci_1]) (by decide) (ls2 := [.ref 0, .int x1, .int x2, .int x3, .int (x4 + (1 : Int32)), .int v12]) rfl ?_
      refine r_goto (tgt := 26) hK d_X11_best_121 (by decide) ?_
      refine r_junk [true, true, true, true, true, false] (ls2 := [.ref 0, .int x1, .int x2, .int x3, .int (x4 + (1 : Int32)), gs_J]) rfl ?_
      exact hq26 _ _ _ _ _  hD
    · have hD := if_t hD h13
      refine r_iload_n hK d_X11_best_95 rfl rfl ?_
      refine r_iconst hK d_X11_best_96 ci_m1 ?_
      refine r_icmp_eq (tgt := 112) hK d_X11_best_97 (by decide) (fun h14 => ?_) (fun h14 => ?_)
      · have hD := if_t hD h14
        refine r_junk [true, true, false, false, true, true] (ls2 := [.ref 0, .int x1, gs_J, gs_J, .int x4, .int v12]) rfl ?_
        exact T_X11_best_112 hK hq26  hD
      · have hD := if_f hD h14
        refine r_iload hK d_X11_best_100 rfl ?_
        refine r_mabs hK d_X11_best_102 mm_RX11_286 ms_abs mi_0 mc_abs (Nat.le_of_ble_eq_true rfl) (by decide) ⟨Nat.zero_le _, Nat.zero_le _⟩ ?_
        refine r_lti hD (fun v15 hD => ?_)
        refine r_iload_n hK d_X11_best_105 rfl rfl ?_
        refine r_mabs hK d_X11_best_106 mm_RX11_286 ms_abs mi_0 mc_abs (Nat.le_of_ble_eq_true rfl) (by decide) ⟨Nat.zero_le _, Nat.zero_le _⟩ ?_
        refine r_lti hD (fun v16 hD => ?_)
        refine r_icmp_ge (tgt := 118) hK d_X11_best_109 (by decide) (fun h17 => ?_) (fun h17 => ?_)
        · have hD := if_t hD h17
          refine r_iinc hK d_X11_best_118 rfl (v := x4 + (1 : Int32)) (by rw [ci_1]) (by decide) (ls2 := [.ref 0, .int x1, .int x2, .int x3, .int (x4 + (1 : Int32)), .int v12]) rfl ?_
          refine r_goto (tgt := 26) hK d_X11_best_121 (by decide) ?_
          refine r_junk [true, true, true, true, true, false] (ls2 := [.ref 0, .int x1, .int x2, .int x3, .int (x4 + (1 : Int32)), gs_J]) rfl ?_
          exact hq26 _ _ _ _ _  hD
        · have hD := if_f hD h17
          refine r_junk [true, true, false, false, true, true] (ls2 := [.ref 0, .int x1, gs_J, gs_J, .int x4, .int v12]) rfl ?_
          exact T_X11_best_112 hK hq26  hD
set_option maxRecDepth 20000 in
theorem TL_X11_best_26  (hK : KC p R s m args meth c ad g tyc RX11 cX11_best 6 (some .int) 6) {r : Int32} {μ2 : gs_M}   : ∀ (n : Nat) (x1 : Int32) (x2 : Int32) (x3 : Int32) (x4 : Int32) (μ : gs_M), L_X11_best_26  n x1 x2 x3 x4 μ = some (r, μ2) → WJ p l e R s m args below meth c 0 0 (MQ below (gs_Q ad g tyc (some (.int r)) μ2) args s 0 0 (gs_A ad)) ad g tyc 6 26 [.ref 0, .int x1, .int x2, .int x3, .int x4, gs_J] [] μ := by
  intro n
  induction n with
  | zero => intro x1 x2 x3 x4 μ  hD; cases hD
  | succ n ih => intro x1 x2 x3 x4 μ  hD; exact To_X11_best_26 hK  ih  hD
set_option maxRecDepth 20000 in
theorem C_X11_best  {x1 : Int32} {μ : gs_M} {r : Int32} {μ2 : gs_M}  (hD : D_X11_best x1 μ = some (r, μ2)) : CALL yX11_best cX11_best 6 (some .int) 6 [.ref 0, .int x1] μ (some (.int r)) μ2 := by
  unfold D_X11_best at hD
  refine gs_enter mf_X11_best (Nat.le_of_ble_eq_true rfl) (ls := [.ref 0, .int x1, gs_J, gs_J, gs_J, gs_J]) rfl (fun p l e R s m args below meth c ad g tyc hK => ?_)
  have hK : KC p R s m args meth c ad g tyc RX11 cX11_best 6 (some .int) 6 := hK
  refine r_aload_n hK d_X11_best_0 rfl rfl ?_
  obtain ⟨v3, u2, e1, hD⟩ := bd_e hD
  refine r_callV (As := []) (st := []) (stk2 := [.int v3]) hK (C_X11_isReady  e1) d_X11_best_1 mf_X11_isReady ml_RX11_206 im_X11_isReady rfl se_10_RX11_X11_isReady kd_0 rfl (Nat.le_of_ble_eq_true rfl) (by decide) ⟨Nat.zero_le _, Nat.zero_le _⟩ rfl rfl ?_
  refine r_if_eq (tgt := 16) hK d_X11_best_4 (by decide) (fun h4 => ?_) (fun h4 => ?_)
  · have hD := if_t hD h4
    refine r_ldc hK d_X11_best_16 kc_RX11_231 ?_
    cases hD
    exact r_iret hK d_X11_best_18
  · have hD := if_f hD h4
    refine r_iload_n hK d_X11_best_7 rfl rfl ?_
    refine r_iconst hK d_X11_best_8 ci_0 ?_
    refine r_iconst hK d_X11_best_9 ci_1 ?_
    obtain ⟨v7, u6, e5, hD⟩ := bd_e hD
    refine r_callS (As := [.int x1, .int (0 : Int32), .int (1 : Int32)]) (st := []) (stk2 := [.int v7]) hK (C_X11_within  e5) d_X11_best_10 mf_X11_within ml_RX11_123 ss_X11_within rfl (Nat.le_of_ble_eq_true rfl) (by decide) ⟨Nat.zero_le _, Nat.zero_le _⟩ rfl rfl ?_
    refine r_if_ne (tgt := 19) hK d_X11_best_13 (by decide) (fun h8 => ?_) (fun h8 => ?_)
    · have hD := if_f hD h8
      refine r_iconst hK d_X11_best_19 ci_m1 ?_
      refine r_istore_n hK d_X11_best_20 rfl (by decide) (ls2 := [.ref 0, .int x1, .int (-1 : Int32), gs_J, gs_J, gs_J]) rfl ?_
      refine r_iconst hK d_X11_best_21 ci_0 ?_
      refine r_istore_n hK d_X11_best_22 rfl (by decide) (ls2 := [.ref 0, .int x1, .int (-1 : Int32), .int (0 : Int32), gs_J, gs_J]) rfl ?_
      refine r_iconst hK d_X11_best_23 ci_0 ?_
      refine r_istore hK d_X11_best_24 (by decide) (ls2 := [.ref 0, .int x1, .int (-1 : Int32), .int (0 : Int32), .int (0 : Int32), gs_J]) rfl ?_
      exact TL_X11_best_26 hK  _ _ _ _ _ _  hD
    · have hD := if_t hD h8
      refine r_ldc hK d_X11_best_16 kc_RX11_231 ?_
      cases hD
      exact r_iret hK d_X11_best_18
end S_X11_best
theorem d_X11_fittingCost_0 : gd cX11_fittingCost 0 (.iconst 3) 1 1 := ⟨by decide +kernel, rfl⟩
theorem d_X11_fittingCost_1 : gd cX11_fittingCost 1 (.iload_n 3) 1 2 := ⟨by decide +kernel, rfl⟩
theorem d_X11_fittingCost_2 : gd cX11_fittingCost 2 .imul 1 3 := ⟨by decide +kernel, rfl⟩
theorem d_X11_fittingCost_3 : gd cX11_fittingCost 3 (.bipush 20) 2 5 := ⟨by decide +kernel, rfl⟩
theorem d_X11_fittingCost_5 : gd cX11_fittingCost 5 (.aload_n 0) 1 6 := ⟨by decide +kernel, rfl⟩
theorem d_X11_fittingCost_6 : gd cX11_fittingCost 6 (.getfield 41) 3 9 := ⟨by decide +kernel, rfl⟩
theorem d_X11_fittingCost_9 : gd cX11_fittingCost 9 (.iload_n 1) 1 10 := ⟨by decide +kernel, rfl⟩
theorem d_X11_fittingCost_10 : gd cX11_fittingCost 10 (.iload_n 2) 1 11 := ⟨by decide +kernel, rfl⟩
theorem d_X11_fittingCost_11 : gd cX11_fittingCost 11 (.iconst 0) 1 12 := ⟨by decide +kernel, rfl⟩
theorem d_X11_fittingCost_12 : gd cX11_fittingCost 12 (.invokevirtual 150) 3 15 := ⟨by decide +kernel, rfl⟩
theorem d_X11_fittingCost_15 : gd cX11_fittingCost 15 .imul 1 16 := ⟨by decide +kernel, rfl⟩
theorem d_X11_fittingCost_16 : gd cX11_fittingCost 16 (.iload 4) 2 18 := ⟨by decide +kernel, rfl⟩
theorem d_X11_fittingCost_18 : gd cX11_fittingCost 18 .imul 1 19 := ⟨by decide +kernel, rfl⟩
theorem d_X11_fittingCost_19 : gd cX11_fittingCost 19 .iadd 1 20 := ⟨by decide +kernel, rfl⟩
theorem d_X11_fittingCost_20 : gd cX11_fittingCost 20 .ireturn 1 21 := ⟨by decide +kernel, rfl⟩
def D_X11_fittingCost (x1 : Int32) (x2 : Int32) (x3 : Int32) (x4 : Int32) (μ : gs_M) : Option (Int32 × gs_M) :=
  bd (D_X9_number 10 x1 x2 (0 : Int32) μ) (fun v3 u2 => some (((3 : Int32) * x3) + (((20 : Int32) * v3) * x4), u2))
section S_X11_fittingCost
variable {p : Program} {l : Launch} {e : Env} {R : Room} {s : State} {m : MethodId} {args : Array Value} {below : List Frame} {meth : Method} {c : Code} {ad : Nat → Nat} {g : va_G} {tyc : Nat → ClassId}
set_option maxRecDepth 20000 in
theorem C_X11_fittingCost  {x1 : Int32} {x2 : Int32} {x3 : Int32} {x4 : Int32} {μ : gs_M} {r : Int32} {μ2 : gs_M}  (hD : D_X11_fittingCost x1 x2 x3 x4 μ = some (r, μ2)) : CALL yX11_fittingCost cX11_fittingCost 5 (some .int) 2 [.ref 0, .int x1, .int x2, .int x3, .int x4] μ (some (.int r)) μ2 := by
  unfold D_X11_fittingCost at hD
  refine gs_enter mf_X11_fittingCost (Nat.le_of_ble_eq_true rfl) (ls := [.ref 0, .int x1, .int x2, .int x3, .int x4]) rfl (fun p l e R s m args below meth c ad g tyc hK => ?_)
  have hK : KC p R s m args meth c ad g tyc RX11 cX11_fittingCost 5 (some .int) 2 := hK
  refine r_iconst hK d_X11_fittingCost_0 ci_3 ?_
  refine r_iload_n hK d_X11_fittingCost_1 rfl rfl ?_
  refine r_imul hK d_X11_fittingCost_2 ?_
  refine r_bipush hK d_X11_fittingCost_3 cb_20 ?_
  refine r_aload_n hK d_X11_fittingCost_5 rfl rfl ?_
  refine r_getR hK d_X11_fittingCost_6 fl_RX11_41_10 rfl kd_0 ?_
  refine r_ref (b := 10) R0_0_4 ?_
  refine r_iload_n hK d_X11_fittingCost_9 rfl rfl ?_
  refine r_iload_n hK d_X11_fittingCost_10 rfl rfl ?_
  refine r_iconst hK d_X11_fittingCost_11 ci_0 ?_
  obtain ⟨v3, u2, e1, hD⟩ := bd_e hD
  refine r_callV (As := [.int x1, .int x2, .int (0 : Int32)]) (st := [.int (20 : Int32), .int ((3 : Int32) * x3)]) (stk2 := [.int v3, .int (20 : Int32), .int ((3 : Int32) * x3)]) hK (C_X9_number kd_10 e1) d_X11_fittingCost_12 mf_X9_number ml_RX11_150 im_X9_number rfl se_8_RX9_X9_number kd_10 rfl (Nat.le_of_ble_eq_true rfl) (by decide) ⟨Nat.zero_le _, Nat.zero_le _⟩ rfl rfl ?_
  refine r_imul hK d_X11_fittingCost_15 ?_
  refine r_iload hK d_X11_fittingCost_16 rfl ?_
  refine r_imul hK d_X11_fittingCost_18 ?_
  refine r_iadd hK d_X11_fittingCost_19 ?_
  cases hD
  exact r_iret hK d_X11_fittingCost_20
end S_X11_fittingCost
theorem d_X11_cost_0 : gd cX11_cost 0 (.aload_n 0) 1 1 := ⟨by decide +kernel, rfl⟩
theorem d_X11_cost_1 : gd cX11_cost 1 (.getfield 41) 3 4 := ⟨by decide +kernel, rfl⟩
theorem d_X11_cost_4 : gd cX11_cost 4 (.iload_n 1) 1 5 := ⟨by decide +kernel, rfl⟩
theorem d_X11_cost_5 : gd cX11_cost 5 (.invokevirtual 143) 3 8 := ⟨by decide +kernel, rfl⟩
theorem d_X11_cost_8 : gd cX11_cost 8 (.ifCond .eq 33) 3 11 := ⟨by decide +kernel, rfl⟩
theorem d_X11_cost_11 : gd cX11_cost 11 (.aload_n 0) 1 12 := ⟨by decide +kernel, rfl⟩
theorem d_X11_cost_12 : gd cX11_cost 12 (.getfield 44) 3 15 := ⟨by decide +kernel, rfl⟩
theorem d_X11_cost_15 : gd cX11_cost 15 (.iload_n 2) 1 16 := ⟨by decide +kernel, rfl⟩
theorem d_X11_cost_16 : gd cX11_cost 16 (.invokevirtual 143) 3 19 := ⟨by decide +kernel, rfl⟩
theorem d_X11_cost_19 : gd cX11_cost 19 (.ifCond .eq 22) 3 22 := ⟨by decide +kernel, rfl⟩
theorem d_X11_cost_22 : gd cX11_cost 22 (.aload_n 0) 1 23 := ⟨by decide +kernel, rfl⟩
theorem d_X11_cost_23 : gd cX11_cost 23 (.getfield 41) 3 26 := ⟨by decide +kernel, rfl⟩
theorem d_X11_cost_26 : gd cX11_cost 26 (.iload_n 1) 1 27 := ⟨by decide +kernel, rfl⟩
theorem d_X11_cost_27 : gd cX11_cost 27 (.invokevirtual 154) 3 30 := ⟨by decide +kernel, rfl⟩
theorem d_X11_cost_30 : gd cX11_cost 30 (.aload_n 0) 1 31 := ⟨by decide +kernel, rfl⟩
theorem d_X11_cost_31 : gd cX11_cost 31 (.getfield 44) 3 34 := ⟨by decide +kernel, rfl⟩
theorem d_X11_cost_34 : gd cX11_cost 34 (.iload_n 2) 1 35 := ⟨by decide +kernel, rfl⟩
theorem d_X11_cost_35 : gd cX11_cost 35 (.invokevirtual 154) 3 38 := ⟨by decide +kernel, rfl⟩
theorem d_X11_cost_38 : gd cX11_cost 38 (.if_icmp .eq 5) 3 41 := ⟨by decide +kernel, rfl⟩
theorem d_X11_cost_41 : gd cX11_cost 41 (.iconst (-1)) 1 42 := ⟨by decide +kernel, rfl⟩
theorem d_X11_cost_42 : gd cX11_cost 42 .ireturn 1 43 := ⟨by decide +kernel, rfl⟩
theorem d_X11_cost_43 : gd cX11_cost 43 (.iconst 0) 1 44 := ⟨by decide +kernel, rfl⟩
theorem d_X11_cost_44 : gd cX11_cost 44 (.istore_n 3) 1 45 := ⟨by decide +kernel, rfl⟩
theorem d_X11_cost_45 : gd cX11_cost 45 (.iconst 0) 1 46 := ⟨by decide +kernel, rfl⟩
theorem d_X11_cost_46 : gd cX11_cost 46 (.istore 4) 2 48 := ⟨by decide +kernel, rfl⟩
theorem d_X11_cost_48 : gd cX11_cost 48 (.iload 4) 2 50 := ⟨by decide +kernel, rfl⟩
theorem d_X11_cost_50 : gd cX11_cost 50 (.aload_n 0) 1 51 := ⟨by decide +kernel, rfl⟩
theorem d_X11_cost_51 : gd cX11_cost 51 (.getfield 41) 3 54 := ⟨by decide +kernel, rfl⟩
theorem d_X11_cost_54 : gd cX11_cost 54 (.iload_n 1) 1 55 := ⟨by decide +kernel, rfl⟩
theorem d_X11_cost_55 : gd cX11_cost 55 (.invokevirtual 154) 3 58 := ⟨by decide +kernel, rfl⟩
theorem d_X11_cost_58 : gd cX11_cost 58 (.if_icmp .ge 67) 3 61 := ⟨by decide +kernel, rfl⟩
theorem d_X11_cost_61 : gd cX11_cost 61 (.iload_n 3) 1 62 := ⟨by decide +kernel, rfl⟩
theorem d_X11_cost_62 : gd cX11_cost 62 (.aload_n 0) 1 63 := ⟨by decide +kernel, rfl⟩
theorem d_X11_cost_63 : gd cX11_cost 63 (.iload_n 1) 1 64 := ⟨by decide +kernel, rfl⟩
theorem d_X11_cost_64 : gd cX11_cost 64 (.iload 4) 2 66 := ⟨by decide +kernel, rfl⟩
theorem d_X11_cost_66 : gd cX11_cost 66 (.aload_n 0) 1 67 := ⟨by decide +kernel, rfl⟩
theorem d_X11_cost_67 : gd cX11_cost 67 (.getfield 44) 3 70 := ⟨by decide +kernel, rfl⟩
theorem d_X11_cost_70 : gd cX11_cost 70 (.iload_n 2) 1 71 := ⟨by decide +kernel, rfl⟩
theorem d_X11_cost_71 : gd cX11_cost 71 (.iload 4) 2 73 := ⟨by decide +kernel, rfl⟩
theorem d_X11_cost_73 : gd cX11_cost 73 (.iconst 3) 1 74 := ⟨by decide +kernel, rfl⟩
theorem d_X11_cost_74 : gd cX11_cost 74 (.invokevirtual 150) 3 77 := ⟨by decide +kernel, rfl⟩
theorem d_X11_cost_77 : gd cX11_cost 77 (.aload_n 0) 1 78 := ⟨by decide +kernel, rfl⟩
theorem d_X11_cost_78 : gd cX11_cost 78 (.getfield 44) 3 81 := ⟨by decide +kernel, rfl⟩
theorem d_X11_cost_81 : gd cX11_cost 81 (.iload_n 2) 1 82 := ⟨by decide +kernel, rfl⟩
theorem d_X11_cost_82 : gd cX11_cost 82 (.iload 4) 2 84 := ⟨by decide +kernel, rfl⟩
theorem d_X11_cost_84 : gd cX11_cost 84 (.iconst 4) 1 85 := ⟨by decide +kernel, rfl⟩
theorem d_X11_cost_85 : gd cX11_cost 85 (.invokevirtual 150) 3 88 := ⟨by decide +kernel, rfl⟩
theorem d_X11_cost_88 : gd cX11_cost 88 (.invokevirtual 300) 3 91 := ⟨by decide +kernel, rfl⟩
theorem d_X11_cost_91 : gd cX11_cost 91 .iadd 1 92 := ⟨by decide +kernel, rfl⟩
theorem d_X11_cost_92 : gd cX11_cost 92 (.istore_n 3) 1 93 := ⟨by decide +kernel, rfl⟩
theorem d_X11_cost_93 : gd cX11_cost 93 (.iload_n 3) 1 94 := ⟨by decide +kernel, rfl⟩
theorem d_X11_cost_94 : gd cX11_cost 94 (.aload_n 0) 1 95 := ⟨by decide +kernel, rfl⟩
theorem d_X11_cost_95 : gd cX11_cost 95 (.getfield 44) 3 98 := ⟨by decide +kernel, rfl⟩
theorem d_X11_cost_98 : gd cX11_cost 98 (.iload_n 2) 1 99 := ⟨by decide +kernel, rfl⟩
theorem d_X11_cost_99 : gd cX11_cost 99 (.iload 4) 2 101 := ⟨by decide +kernel, rfl⟩
theorem d_X11_cost_101 : gd cX11_cost 101 (.iconst 2) 1 102 := ⟨by decide +kernel, rfl⟩
theorem d_X11_cost_102 : gd cX11_cost 102 (.invokevirtual 150) 3 105 := ⟨by decide +kernel, rfl⟩
theorem d_X11_cost_105 : gd cX11_cost 105 (.aload_n 0) 1 106 := ⟨by decide +kernel, rfl⟩
theorem d_X11_cost_106 : gd cX11_cost 106 (.getfield 44) 3 109 := ⟨by decide +kernel, rfl⟩
theorem d_X11_cost_109 : gd cX11_cost 109 (.iload_n 2) 1 110 := ⟨by decide +kernel, rfl⟩
theorem d_X11_cost_110 : gd cX11_cost 110 (.iload 4) 2 112 := ⟨by decide +kernel, rfl⟩
theorem d_X11_cost_112 : gd cX11_cost 112 (.iconst 1) 1 113 := ⟨by decide +kernel, rfl⟩
theorem d_X11_cost_113 : gd cX11_cost 113 (.invokevirtual 150) 3 116 := ⟨by decide +kernel, rfl⟩
theorem d_X11_cost_116 : gd cX11_cost 116 .imul 1 117 := ⟨by decide +kernel, rfl⟩
theorem d_X11_cost_117 : gd cX11_cost 117 .iadd 1 118 := ⟨by decide +kernel, rfl⟩
theorem d_X11_cost_118 : gd cX11_cost 118 (.istore_n 3) 1 119 := ⟨by decide +kernel, rfl⟩
theorem d_X11_cost_119 : gd cX11_cost 119 (.iinc 4 1) 3 122 := ⟨by decide +kernel, rfl⟩
theorem d_X11_cost_122 : gd cX11_cost 122 (.goto (-74)) 3 125 := ⟨by decide +kernel, rfl⟩
theorem d_X11_cost_125 : gd cX11_cost 125 (.iload_n 3) 1 126 := ⟨by decide +kernel, rfl⟩
theorem d_X11_cost_126 : gd cX11_cost 126 .ireturn 1 127 := ⟨by decide +kernel, rfl⟩
def Bo_X11_cost_48 (q48 : Int32 → Int32 → Int32 → Int32 → gs_M → Option (Int32 × gs_M)) (x1 : Int32) (x2 : Int32) (x3 : Int32) (x4 : Int32) (μ : gs_M) : Option (Int32 × gs_M) :=
  bd (D_X9_rowsOf 10 x1 μ) (fun v3 u2 => if v3 ≤ x4 then (some (x3, u2)) else (bd (D_X9_number 13 x2 x4 (3 : Int32) u2) (fun v7 u6 => bd (D_X9_number 13 x2 x4 (4 : Int32) u6) (fun v10 u9 => bd (D_X11_fittingCost x1 x4 v7 v10 u9) (fun v13 u12 => lt1 (x3 + v13) (fun v14 => bd (D_X9_number 13 x2 x4 (2 : Int32) u12) (fun v17 u16 => bd (D_X9_number 13 x2 x4 (1 : Int32) u16) (fun v20 u19 => lt1 (v14 + (v17 * v20)) (fun v21 => q48 x1 x2 v21 (x4 + (1 : Int32)) u19)))))))))
def L_X11_cost_48  : Nat → Int32 → Int32 → Int32 → Int32 → gs_M → Option (Int32 × gs_M)
  | 0 => fun _ _ _ _ _ => none
  | n + 1 => fun x1 x2 x3 x4 μ => Bo_X11_cost_48  (L_X11_cost_48  n) x1 x2 x3 x4 μ
def D_X11_cost (x1 : Int32) (x2 : Int32) (μ : gs_M) : Option (Int32 × gs_M) :=
  bd (D_X9_has 10 x1 μ) (fun v3 u2 => if v3 = 0 then (some ((-1 : Int32), u2)) else (bd (D_X9_has 13 x2 u2) (fun v7 u6 => if v7 = 0 then (some ((-1 : Int32), u6)) else (bd (D_X9_rowsOf 10 x1 u6) (fun v11 u10 => bd (D_X9_rowsOf 13 x2 u10) (fun v14 u13 => if v11 = v14 then (L_X11_cost_48 4096 x1 x2 (0 : Int32) (0 : Int32) u13) else (some ((-1 : Int32), u13))))))))
section S_X11_cost
variable {p : Program} {l : Launch} {e : Env} {R : Room} {s : State} {m : MethodId} {args : Array Value} {below : List Frame} {meth : Method} {c : Code} {ad : Nat → Nat} {g : va_G} {tyc : Nat → ClassId}
set_option maxRecDepth 20000 in
theorem To_X11_cost_48  (hK : KC p R s m args meth c ad g tyc RX11 cX11_cost 5 (some .int) 3) {r : Int32} {μ2 : gs_M} {q48 : Int32 → Int32 → Int32 → Int32 → gs_M → Option (Int32 × gs_M)} (hq48 : ∀ (x1 : Int32) (x2 : Int32) (x3 : Int32) (x4 : Int32) (μ : gs_M), q48 x1 x2 x3 x4 μ = some (r, μ2) → WJ p l e R s m args below meth c 0 0 (MQ below (gs_Q ad g tyc (some (.int r)) μ2) args s 0 0 (gs_A ad)) ad g tyc 5 48 [.ref 0, .int x1, .int x2, .int x3, .int x4] [] μ) {x1 : Int32} {x2 : Int32} {x3 : Int32} {x4 : Int32} {μ : gs_M}  (hD : Bo_X11_cost_48 q48 x1 x2 x3 x4 μ = some (r, μ2)) : WJ p l e R s m args below meth c 0 0 (MQ below (gs_Q ad g tyc (some (.int r)) μ2) args s 0 0 (gs_A ad)) ad g tyc 5 48 [.ref 0, .int x1, .int x2, .int x3, .int x4] [] μ := by
  unfold Bo_X11_cost_48 at hD
  refine r_iload hK d_X11_cost_48 rfl ?_
  refine r_aload_n hK d_X11_cost_50 rfl rfl ?_
  refine r_getR hK d_X11_cost_51 fl_RX11_41_10 rfl kd_0 ?_
  refine r_ref (b := 10) R0_0_4 ?_
  refine r_iload_n hK d_X11_cost_54 rfl rfl ?_
  obtain ⟨v3, u2, e1, hD⟩ := bd_e hD
  refine r_callV (As := [.int x1]) (st := [.int x4]) (stk2 := [.int v3, .int x4]) hK (C_X9_rowsOf kd_10 e1) d_X11_cost_55 mf_X9_rowsOf ml_RX11_154 im_X9_rowsOf rfl se_8_RX9_X9_rowsOf kd_10 rfl (Nat.le_of_ble_eq_true rfl) (by decide) ⟨Nat.zero_le _, Nat.zero_le _⟩ rfl rfl ?_
  refine r_icmp_ge (tgt := 125) hK d_X11_cost_58 (by decide) (fun h4 => ?_) (fun h4 => ?_)
  · have hD := if_t hD h4
    refine r_iload_n hK d_X11_cost_125 rfl rfl ?_
    cases hD
    exact r_iret hK d_X11_cost_126
  · have hD := if_f hD h4
    refine r_iload_n hK d_X11_cost_61 rfl rfl ?_
    refine r_aload_n hK d_X11_cost_62 rfl rfl ?_
    refine r_iload_n hK d_X11_cost_63 rfl rfl ?_
    refine r_iload hK d_X11_cost_64 rfl ?_
    refine r_aload_n hK d_X11_cost_66 rfl rfl ?_
    refine r_getR hK d_X11_cost_67 fl_RX11_44_10 rfl kd_0 ?_
    refine r_ref (b := 13) R0_0_5 ?_
    refine r_iload_n hK d_X11_cost_70 rfl rfl ?_
    refine r_iload hK d_X11_cost_71 rfl ?_
    refine r_iconst hK d_X11_cost_73 ci_3 ?_
    obtain ⟨v7, u6, e5, hD⟩ := bd_e hD
    refine r_callV (As := [.int x2, .int x4, .int (3 : Int32)]) (st := [.int x4, .int x1, .ref 0, .int x3]) (stk2 := [.int v7, .int x4, .int x1, .ref 0, .int x3]) hK (C_X9_number kd_13 e5) d_X11_cost_74 mf_X9_number ml_RX11_150 im_X9_number rfl se_8_RX9_X9_number kd_13 rfl (Nat.le_of_ble_eq_true rfl) (by decide) ⟨Nat.zero_le _, Nat.zero_le _⟩ rfl rfl ?_
    refine r_aload_n hK d_X11_cost_77 rfl rfl ?_
    refine r_getR hK d_X11_cost_78 fl_RX11_44_10 rfl kd_0 ?_
    refine r_ref (b := 13) R0_0_5 ?_
    refine r_iload_n hK d_X11_cost_81 rfl rfl ?_
    refine r_iload hK d_X11_cost_82 rfl ?_
    refine r_iconst hK d_X11_cost_84 ci_4 ?_
    obtain ⟨v10, u9, e8, hD⟩ := bd_e hD
    refine r_callV (As := [.int x2, .int x4, .int (4 : Int32)]) (st := [.int v7, .int x4, .int x1, .ref 0, .int x3]) (stk2 := [.int v10, .int v7, .int x4, .int x1, .ref 0, .int x3]) hK (C_X9_number kd_13 e8) d_X11_cost_85 mf_X9_number ml_RX11_150 im_X9_number rfl se_8_RX9_X9_number kd_13 rfl (Nat.le_of_ble_eq_true rfl) (by decide) ⟨Nat.zero_le _, Nat.zero_le _⟩ rfl rfl ?_
    obtain ⟨v13, u12, e11, hD⟩ := bd_e hD
    refine r_callV (As := [.int x1, .int x4, .int v7, .int v10]) (st := [.int x3]) (stk2 := [.int v13, .int x3]) hK (C_X11_fittingCost  e11) d_X11_cost_88 mf_X11_fittingCost ml_RX11_300 im_X11_fittingCost rfl se_10_RX11_X11_fittingCost kd_0 rfl (Nat.le_of_ble_eq_true rfl) (by decide) ⟨Nat.zero_le _, Nat.zero_le _⟩ rfl rfl ?_
    refine r_iadd hK d_X11_cost_91 ?_
    refine r_lti hD (fun v14 hD => ?_)
    refine r_istore_n hK d_X11_cost_92 rfl (by decide) (ls2 := [.ref 0, .int x1, .int x2, .int v14, .int x4]) rfl ?_
    refine r_iload_n hK d_X11_cost_93 rfl rfl ?_
    refine r_aload_n hK d_X11_cost_94 rfl rfl ?_
    refine r_getR hK d_X11_cost_95 fl_RX11_44_10 rfl kd_0 ?_
    refine r_ref (b := 13) R0_0_5 ?_
    refine r_iload_n hK d_X11_cost_98 rfl rfl ?_
    refine r_iload hK d_X11_cost_99 rfl ?_
    refine r_iconst hK d_X11_cost_101 ci_2 ?_
    obtain ⟨v17, u16, e15, hD⟩ := bd_e hD
    refine r_callV (As := [.int x2, .int x4, .int (2 : Int32)]) (st := [.int v14]) (stk2 := [.int v17, .int v14]) hK (C_X9_number kd_13 e15) d_X11_cost_102 mf_X9_number ml_RX11_150 im_X9_number rfl se_8_RX9_X9_number kd_13 rfl (Nat.le_of_ble_eq_true rfl) (by decide) ⟨Nat.zero_le _, Nat.zero_le _⟩ rfl rfl ?_
    refine r_aload_n hK d_X11_cost_105 rfl rfl ?_
    refine r_getR hK d_X11_cost_106 fl_RX11_44_10 rfl kd_0 ?_
    refine r_ref (b := 13) R0_0_5 ?_
    refine r_iload_n hK d_X11_cost_109 rfl rfl ?_
    refine r_iload hK d_X11_cost_110 rfl ?_
    refine r_iconst hK d_X11_cost_112 ci_1 ?_
    obtain ⟨v20, u19, e18, hD⟩ := bd_e hD
    refine r_callV (As := [.int x2, .int x4, .int (1 : Int32)]) (st := [.int v17, .int v14]) (stk2 := [.int v20, .int v17, .int v14]) hK (C_X9_number kd_13 e18) d_X11_cost_113 mf_X9_number ml_RX11_150 im_X9_number rfl se_8_RX9_X9_number kd_13 rfl (Nat.le_of_ble_eq_true rfl) (by decide) ⟨Nat.zero_le _, Nat.zero_le _⟩ rfl rfl ?_
    refine r_imul hK d_X11_cost_116 ?_
    refine r_iadd hK d_X11_cost_117 ?_
    refine r_lti hD (fun v21 hD => ?_)
    refine r_istore_n hK d_X11_cost_118 rfl (by decide) (ls2 := [.ref 0, .int x1, .int x2, .int v21, .int x4]) rfl ?_
    refine r_iinc hK d_X11_cost_119 rfl (v := x4 + (1 : Int32)) (by rw [ci_1]) (by decide) (ls2 := [.ref 0, .int x1, .int x2, .int v21, .int (x4 + (1 : Int32))]) rfl ?_
    refine r_goto (tgt := 48) hK d_X11_cost_122 (by decide) ?_
    exact hq48 _ _ _ _ _  hD
set_option maxRecDepth 20000 in
theorem TL_X11_cost_48  (hK : KC p R s m args meth c ad g tyc RX11 cX11_cost 5 (some .int) 3) {r : Int32} {μ2 : gs_M}   : ∀ (n : Nat) (x1 : Int32) (x2 : Int32) (x3 : Int32) (x4 : Int32) (μ : gs_M), L_X11_cost_48  n x1 x2 x3 x4 μ = some (r, μ2) → WJ p l e R s m args below meth c 0 0 (MQ below (gs_Q ad g tyc (some (.int r)) μ2) args s 0 0 (gs_A ad)) ad g tyc 5 48 [.ref 0, .int x1, .int x2, .int x3, .int x4] [] μ := by
  intro n
  induction n with
  | zero => intro x1 x2 x3 x4 μ  hD; cases hD
  | succ n ih => intro x1 x2 x3 x4 μ  hD; exact To_X11_cost_48 hK  ih  hD
set_option maxRecDepth 20000 in
theorem C_X11_cost  {x1 : Int32} {x2 : Int32} {μ : gs_M} {r : Int32} {μ2 : gs_M}  (hD : D_X11_cost x1 x2 μ = some (r, μ2)) : CALL yX11_cost cX11_cost 5 (some .int) 3 [.ref 0, .int x1, .int x2] μ (some (.int r)) μ2 := by
  unfold D_X11_cost at hD
  refine gs_enter mf_X11_cost (Nat.le_of_ble_eq_true rfl) (ls := [.ref 0, .int x1, .int x2, gs_J, gs_J]) rfl (fun p l e R s m args below meth c ad g tyc hK => ?_)
  have hK : KC p R s m args meth c ad g tyc RX11 cX11_cost 5 (some .int) 3 := hK
  refine r_aload_n hK d_X11_cost_0 rfl rfl ?_
  refine r_getR hK d_X11_cost_1 fl_RX11_41_10 rfl kd_0 ?_
  refine r_ref (b := 10) R0_0_4 ?_
  refine r_iload_n hK d_X11_cost_4 rfl rfl ?_
  obtain ⟨v3, u2, e1, hD⟩ := bd_e hD
  refine r_callV (As := [.int x1]) (st := []) (stk2 := [.int v3]) hK (C_X9_has kd_10 e1) d_X11_cost_5 mf_X9_has ml_RX11_143 im_X9_has rfl se_8_RX9_X9_has kd_10 rfl (Nat.le_of_ble_eq_true rfl) (by decide) ⟨Nat.zero_le _, Nat.zero_le _⟩ rfl rfl ?_
  refine r_if_eq (tgt := 41) hK d_X11_cost_8 (by decide) (fun h4 => ?_) (fun h4 => ?_)
  · have hD := if_t hD h4
    refine r_iconst hK d_X11_cost_41 ci_m1 ?_
    cases hD
    exact r_iret hK d_X11_cost_42
  · have hD := if_f hD h4
    refine r_aload_n hK d_X11_cost_11 rfl rfl ?_
    refine r_getR hK d_X11_cost_12 fl_RX11_44_10 rfl kd_0 ?_
    refine r_ref (b := 13) R0_0_5 ?_
    refine r_iload_n hK d_X11_cost_15 rfl rfl ?_
    obtain ⟨v7, u6, e5, hD⟩ := bd_e hD
    refine r_callV (As := [.int x2]) (st := []) (stk2 := [.int v7]) hK (C_X9_has kd_13 e5) d_X11_cost_16 mf_X9_has ml_RX11_143 im_X9_has rfl se_8_RX9_X9_has kd_13 rfl (Nat.le_of_ble_eq_true rfl) (by decide) ⟨Nat.zero_le _, Nat.zero_le _⟩ rfl rfl ?_
    refine r_if_eq (tgt := 41) hK d_X11_cost_19 (by decide) (fun h8 => ?_) (fun h8 => ?_)
    · have hD := if_t hD h8
      refine r_iconst hK d_X11_cost_41 ci_m1 ?_
      cases hD
      exact r_iret hK d_X11_cost_42
    · have hD := if_f hD h8
      refine r_aload_n hK d_X11_cost_22 rfl rfl ?_
      refine r_getR hK d_X11_cost_23 fl_RX11_41_10 rfl kd_0 ?_
      refine r_ref (b := 10) R0_0_4 ?_
      refine r_iload_n hK d_X11_cost_26 rfl rfl ?_
      obtain ⟨v11, u10, e9, hD⟩ := bd_e hD
      refine r_callV (As := [.int x1]) (st := []) (stk2 := [.int v11]) hK (C_X9_rowsOf kd_10 e9) d_X11_cost_27 mf_X9_rowsOf ml_RX11_154 im_X9_rowsOf rfl se_8_RX9_X9_rowsOf kd_10 rfl (Nat.le_of_ble_eq_true rfl) (by decide) ⟨Nat.zero_le _, Nat.zero_le _⟩ rfl rfl ?_
      refine r_aload_n hK d_X11_cost_30 rfl rfl ?_
      refine r_getR hK d_X11_cost_31 fl_RX11_44_10 rfl kd_0 ?_
      refine r_ref (b := 13) R0_0_5 ?_
      refine r_iload_n hK d_X11_cost_34 rfl rfl ?_
      obtain ⟨v14, u13, e12, hD⟩ := bd_e hD
      refine r_callV (As := [.int x2]) (st := [.int v11]) (stk2 := [.int v14, .int v11]) hK (C_X9_rowsOf kd_13 e12) d_X11_cost_35 mf_X9_rowsOf ml_RX11_154 im_X9_rowsOf rfl se_8_RX9_X9_rowsOf kd_13 rfl (Nat.le_of_ble_eq_true rfl) (by decide) ⟨Nat.zero_le _, Nat.zero_le _⟩ rfl rfl ?_
      refine r_icmp_eq (tgt := 43) hK d_X11_cost_38 (by decide) (fun h15 => ?_) (fun h15 => ?_)
      · have hD := if_t hD h15
        refine r_iconst hK d_X11_cost_43 ci_0 ?_
        refine r_istore_n hK d_X11_cost_44 rfl (by decide) (ls2 := [.ref 0, .int x1, .int x2, .int (0 : Int32), gs_J]) rfl ?_
        refine r_iconst hK d_X11_cost_45 ci_0 ?_
        refine r_istore hK d_X11_cost_46 (by decide) (ls2 := [.ref 0, .int x1, .int x2, .int (0 : Int32), .int (0 : Int32)]) rfl ?_
        exact TL_X11_cost_48 hK  _ _ _ _ _ _  hD
      · have hD := if_f hD h15
        refine r_iconst hK d_X11_cost_41 ci_m1 ?_
        cases hD
        exact r_iret hK d_X11_cost_42
end S_X11_cost
theorem d_X11_isVoyage_0 : gd cX11_isVoyage 0 (.iload_n 0) 1 1 := ⟨by decide +kernel, rfl⟩
theorem d_X11_isVoyage_1 : gd cX11_isVoyage 1 (.iconst 0) 1 2 := ⟨by decide +kernel, rfl⟩
theorem d_X11_isVoyage_2 : gd cX11_isVoyage 2 (.bipush 30) 2 4 := ⟨by decide +kernel, rfl⟩
theorem d_X11_isVoyage_4 : gd cX11_isVoyage 4 (.invokestatic 123) 3 7 := ⟨by decide +kernel, rfl⟩
theorem d_X11_isVoyage_7 : gd cX11_isVoyage 7 (.ifCond .eq 26) 3 10 := ⟨by decide +kernel, rfl⟩
theorem d_X11_isVoyage_10 : gd cX11_isVoyage 10 (.iload_n 1) 1 11 := ⟨by decide +kernel, rfl⟩
theorem d_X11_isVoyage_11 : gd cX11_isVoyage 11 (.iconst 1) 1 12 := ⟨by decide +kernel, rfl⟩
theorem d_X11_isVoyage_12 : gd cX11_isVoyage 12 (.bipush 9) 2 14 := ⟨by decide +kernel, rfl⟩
theorem d_X11_isVoyage_14 : gd cX11_isVoyage 14 (.invokestatic 123) 3 17 := ⟨by decide +kernel, rfl⟩
theorem d_X11_isVoyage_17 : gd cX11_isVoyage 17 (.ifCond .eq 16) 3 20 := ⟨by decide +kernel, rfl⟩
theorem d_X11_isVoyage_20 : gd cX11_isVoyage 20 (.iload_n 2) 1 21 := ⟨by decide +kernel, rfl⟩
theorem d_X11_isVoyage_21 : gd cX11_isVoyage 21 (.iconst 1) 1 22 := ⟨by decide +kernel, rfl⟩
theorem d_X11_isVoyage_22 : gd cX11_isVoyage 22 (.iconst 5) 1 23 := ⟨by decide +kernel, rfl⟩
theorem d_X11_isVoyage_23 : gd cX11_isVoyage 23 (.invokestatic 123) 3 26 := ⟨by decide +kernel, rfl⟩
theorem d_X11_isVoyage_26 : gd cX11_isVoyage 26 (.ifCond .eq 7) 3 29 := ⟨by decide +kernel, rfl⟩
theorem d_X11_isVoyage_29 : gd cX11_isVoyage 29 (.iconst 1) 1 30 := ⟨by decide +kernel, rfl⟩
theorem d_X11_isVoyage_30 : gd cX11_isVoyage 30 (.goto 4) 3 33 := ⟨by decide +kernel, rfl⟩
theorem d_X11_isVoyage_33 : gd cX11_isVoyage 33 (.iconst 0) 1 34 := ⟨by decide +kernel, rfl⟩
theorem d_X11_isVoyage_34 : gd cX11_isVoyage 34 .ireturn 1 35 := ⟨by decide +kernel, rfl⟩
def B_X11_isVoyage_33   (μ : gs_M) : Option (Int32 × gs_M) :=
  some ((0 : Int32), μ)
def D_X11_isVoyage (x0 : Int32) (x1 : Int32) (x2 : Int32) (μ : gs_M) : Option (Int32 × gs_M) :=
  bd (D_X11_within x0 (0 : Int32) (30 : Int32) μ) (fun v3 u2 => if v3 = 0 then (B_X11_isVoyage_33 u2) else (bd (D_X11_within x1 (1 : Int32) (9 : Int32) u2) (fun v7 u6 => if v7 = 0 then (B_X11_isVoyage_33 u6) else (bd (D_X11_within x2 (1 : Int32) (5 : Int32) u6) (fun v11 u10 => if v11 = 0 then (B_X11_isVoyage_33 u10) else (some ((1 : Int32), u10)))))))
section S_X11_isVoyage
variable {p : Program} {l : Launch} {e : Env} {R : Room} {s : State} {m : MethodId} {args : Array Value} {below : List Frame} {meth : Method} {c : Code} {ad : Nat → Nat} {g : va_G} {tyc : Nat → ClassId}
set_option maxRecDepth 20000 in
theorem T_X11_isVoyage_33  (hK : KC p R s m args meth c ad g tyc RX11 cX11_isVoyage 3 (some .boolean) 1) {r : Int32} {μ2 : gs_M}    {μ : gs_M}  (hD : B_X11_isVoyage_33   μ = some (r, μ2)) : WJ p l e R s m args below meth c 0 0 (MQ below (gs_Q ad g tyc (some (.int r)) μ2) args s 0 0 (gs_A ad)) ad g tyc 3 33 [gs_J, gs_J, gs_J] [] μ := by
  unfold B_X11_isVoyage_33 at hD
  refine r_iconst hK d_X11_isVoyage_33 ci_0 ?_
  cases hD
  exact r_zret hK (Or.inl rfl) d_X11_isVoyage_34
set_option maxRecDepth 20000 in
theorem C_X11_isVoyage  {x0 : Int32} {x1 : Int32} {x2 : Int32} {μ : gs_M} {r : Int32} {μ2 : gs_M}  (hD : D_X11_isVoyage x0 x1 x2 μ = some (r, μ2)) : CALL yX11_isVoyage cX11_isVoyage 3 (some .boolean) 1 [.int x0, .int x1, .int x2] μ (some (.int r)) μ2 := by
  unfold D_X11_isVoyage at hD
  refine gs_enter mf_X11_isVoyage (Nat.le_of_ble_eq_true rfl) (ls := [.int x0, .int x1, .int x2]) rfl (fun p l e R s m args below meth c ad g tyc hK => ?_)
  have hK : KC p R s m args meth c ad g tyc RX11 cX11_isVoyage 3 (some .boolean) 1 := hK
  refine r_iload_n hK d_X11_isVoyage_0 rfl rfl ?_
  refine r_iconst hK d_X11_isVoyage_1 ci_0 ?_
  refine r_bipush hK d_X11_isVoyage_2 cb_30 ?_
  obtain ⟨v3, u2, e1, hD⟩ := bd_e hD
  refine r_callS (As := [.int x0, .int (0 : Int32), .int (30 : Int32)]) (st := []) (stk2 := [.int v3]) hK (C_X11_within  e1) d_X11_isVoyage_4 mf_X11_within ml_RX11_123 ss_X11_within rfl (Nat.le_of_ble_eq_true rfl) (by decide) ⟨Nat.zero_le _, Nat.zero_le _⟩ rfl rfl ?_
  refine r_if_eq (tgt := 33) hK d_X11_isVoyage_7 (by decide) (fun h4 => ?_) (fun h4 => ?_)
  · have hD := if_t hD h4
    refine r_junk [false, false, false] (ls2 := [gs_J, gs_J, gs_J]) rfl ?_
    exact T_X11_isVoyage_33 hK   hD
  · have hD := if_f hD h4
    refine r_iload_n hK d_X11_isVoyage_10 rfl rfl ?_
    refine r_iconst hK d_X11_isVoyage_11 ci_1 ?_
    refine r_bipush hK d_X11_isVoyage_12 cb_9 ?_
    obtain ⟨v7, u6, e5, hD⟩ := bd_e hD
    refine r_callS (As := [.int x1, .int (1 : Int32), .int (9 : Int32)]) (st := []) (stk2 := [.int v7]) hK (C_X11_within  e5) d_X11_isVoyage_14 mf_X11_within ml_RX11_123 ss_X11_within rfl (Nat.le_of_ble_eq_true rfl) (by decide) ⟨Nat.zero_le _, Nat.zero_le _⟩ rfl rfl ?_
    refine r_if_eq (tgt := 33) hK d_X11_isVoyage_17 (by decide) (fun h8 => ?_) (fun h8 => ?_)
    · have hD := if_t hD h8
      refine r_junk [false, false, false] (ls2 := [gs_J, gs_J, gs_J]) rfl ?_
      exact T_X11_isVoyage_33 hK   hD
    · have hD := if_f hD h8
      refine r_iload_n hK d_X11_isVoyage_20 rfl rfl ?_
      refine r_iconst hK d_X11_isVoyage_21 ci_1 ?_
      refine r_iconst hK d_X11_isVoyage_22 ci_5 ?_
      obtain ⟨v11, u10, e9, hD⟩ := bd_e hD
      refine r_callS (As := [.int x2, .int (1 : Int32), .int (5 : Int32)]) (st := []) (stk2 := [.int v11]) hK (C_X11_within  e9) d_X11_isVoyage_23 mf_X11_within ml_RX11_123 ss_X11_within rfl (Nat.le_of_ble_eq_true rfl) (by decide) ⟨Nat.zero_le _, Nat.zero_le _⟩ rfl rfl ?_
      refine r_if_eq (tgt := 33) hK d_X11_isVoyage_26 (by decide) (fun h12 => ?_) (fun h12 => ?_)
      · have hD := if_t hD h12
        refine r_junk [false, false, false] (ls2 := [gs_J, gs_J, gs_J]) rfl ?_
        exact T_X11_isVoyage_33 hK   hD
      · have hD := if_f hD h12
        refine r_iconst hK d_X11_isVoyage_29 ci_1 ?_
        refine r_goto (tgt := 34) hK d_X11_isVoyage_30 (by decide) ?_
        cases hD
        exact r_zret hK (Or.inr rfl) d_X11_isVoyage_34
end S_X11_isVoyage
theorem d_X11_lostOf_0 : gd cX11_lostOf 0 (.iconst 0) 1 1 := ⟨by decide +kernel, rfl⟩
theorem d_X11_lostOf_1 : gd cX11_lostOf 1 (.istore 5) 2 3 := ⟨by decide +kernel, rfl⟩
theorem d_X11_lostOf_3 : gd cX11_lostOf 3 (.iconst 0) 1 4 := ⟨by decide +kernel, rfl⟩
theorem d_X11_lostOf_4 : gd cX11_lostOf 4 (.istore 6) 2 6 := ⟨by decide +kernel, rfl⟩
theorem d_X11_lostOf_6 : gd cX11_lostOf 6 (.iload 6) 2 8 := ⟨by decide +kernel, rfl⟩
theorem d_X11_lostOf_8 : gd cX11_lostOf 8 (.iload_n 3) 1 9 := ⟨by decide +kernel, rfl⟩
theorem d_X11_lostOf_9 : gd cX11_lostOf 9 (.if_icmp .ge 66) 3 12 := ⟨by decide +kernel, rfl⟩
theorem d_X11_lostOf_12 : gd cX11_lostOf 12 (.iload 5) 2 14 := ⟨by decide +kernel, rfl⟩
theorem d_X11_lostOf_14 : gd cX11_lostOf 14 (.iload 4) 2 16 := ⟨by decide +kernel, rfl⟩
theorem d_X11_lostOf_16 : gd cX11_lostOf 16 (.if_icmp .gt 59) 3 19 := ⟨by decide +kernel, rfl⟩
theorem d_X11_lostOf_19 : gd cX11_lostOf 19 (.aload_n 0) 1 20 := ⟨by decide +kernel, rfl⟩
theorem d_X11_lostOf_20 : gd cX11_lostOf 20 (.getfield 76) 3 23 := ⟨by decide +kernel, rfl⟩
theorem d_X11_lostOf_23 : gd cX11_lostOf 23 (.aload_n 0) 1 24 := ⟨by decide +kernel, rfl⟩
theorem d_X11_lostOf_24 : gd cX11_lostOf 24 (.getfield 73) 3 27 := ⟨by decide +kernel, rfl⟩
theorem d_X11_lostOf_27 : gd cX11_lostOf 27 (.invokevirtual 278) 3 30 := ⟨by decide +kernel, rfl⟩
theorem d_X11_lostOf_30 : gd cX11_lostOf 30 (.aload_n 0) 1 31 := ⟨by decide +kernel, rfl⟩
theorem d_X11_lostOf_31 : gd cX11_lostOf 31 (.getfield 76) 3 34 := ⟨by decide +kernel, rfl⟩
theorem d_X11_lostOf_34 : gd cX11_lostOf 34 (.iload 6) 2 36 := ⟨by decide +kernel, rfl⟩
theorem d_X11_lostOf_36 : gd cX11_lostOf 36 .i2l 1 37 := ⟨by decide +kernel, rfl⟩
theorem d_X11_lostOf_37 : gd cX11_lostOf 37 (.putfield 174) 3 40 := ⟨by decide +kernel, rfl⟩
theorem d_X11_lostOf_40 : gd cX11_lostOf 40 (.aload_n 0) 1 41 := ⟨by decide +kernel, rfl⟩
theorem d_X11_lostOf_41 : gd cX11_lostOf 41 (.getfield 76) 3 44 := ⟨by decide +kernel, rfl⟩
theorem d_X11_lostOf_44 : gd cX11_lostOf 44 (.iload_n 1) 1 45 := ⟨by decide +kernel, rfl⟩
theorem d_X11_lostOf_45 : gd cX11_lostOf 45 (.iload_n 2) 1 46 := ⟨by decide +kernel, rfl⟩
theorem d_X11_lostOf_46 : gd cX11_lostOf 46 (.invokevirtual 213) 3 49 := ⟨by decide +kernel, rfl⟩
theorem d_X11_lostOf_49 : gd cX11_lostOf 49 (.iload 5) 2 51 := ⟨by decide +kernel, rfl⟩
theorem d_X11_lostOf_51 : gd cX11_lostOf 51 (.aload_n 0) 1 52 := ⟨by decide +kernel, rfl⟩
theorem d_X11_lostOf_52 : gd cX11_lostOf 52 (.getfield 76) 3 55 := ⟨by decide +kernel, rfl⟩
theorem d_X11_lostOf_55 : gd cX11_lostOf 55 (.getfield 262) 3 58 := ⟨by decide +kernel, rfl⟩
theorem d_X11_lostOf_58 : gd cX11_lostOf 58 (.ifCond .eq 7) 3 61 := ⟨by decide +kernel, rfl⟩
theorem d_X11_lostOf_61 : gd cX11_lostOf 61 (.iconst 1) 1 62 := ⟨by decide +kernel, rfl⟩
theorem d_X11_lostOf_62 : gd cX11_lostOf 62 (.goto 4) 3 65 := ⟨by decide +kernel, rfl⟩
theorem d_X11_lostOf_65 : gd cX11_lostOf 65 (.iconst 0) 1 66 := ⟨by decide +kernel, rfl⟩
theorem d_X11_lostOf_66 : gd cX11_lostOf 66 .iadd 1 67 := ⟨by decide +kernel, rfl⟩
theorem d_X11_lostOf_67 : gd cX11_lostOf 67 (.istore 5) 2 69 := ⟨by decide +kernel, rfl⟩
theorem d_X11_lostOf_69 : gd cX11_lostOf 69 (.iinc 6 1) 3 72 := ⟨by decide +kernel, rfl⟩
theorem d_X11_lostOf_72 : gd cX11_lostOf 72 (.goto (-66)) 3 75 := ⟨by decide +kernel, rfl⟩
theorem d_X11_lostOf_75 : gd cX11_lostOf 75 (.iload 5) 2 77 := ⟨by decide +kernel, rfl⟩
theorem d_X11_lostOf_77 : gd cX11_lostOf 77 .ireturn 1 78 := ⟨by decide +kernel, rfl⟩
def Bo_X11_lostOf_6 (q6 : Int32 → Int32 → Int32 → Int32 → Int32 → Int32 → gs_M → Option (Int32 × gs_M)) (x1 : Int32) (x2 : Int32) (x3 : Int32) (x4 : Int32) (x5 : Int32) (x6 : Int32) (μ : gs_M) : Option (Int32 × gs_M) :=
  if x3 ≤ x6 then (some (x5, μ)) else (if x4 < x5 then (some (x5, μ)) else (bd0 (D_X10_become 56 46 μ) (fun u4 => lt1 (sL u4 56 5 (Int32.toInt64 x6)) (fun u5 => bd0 (D_X10_sail 56 x1 x2 u5) (fun u7 => if (gI u7 56 4) = 0 then (lt1 (x5 + (0 : Int32)) (fun v9 => q6 x1 x2 x3 x4 v9 (x6 + (1 : Int32)) u7)) else (lt1 (x5 + (1 : Int32)) (fun v10 => q6 x1 x2 x3 x4 v10 (x6 + (1 : Int32)) u7)))))))
def L_X11_lostOf_6  : Nat → Int32 → Int32 → Int32 → Int32 → Int32 → Int32 → gs_M → Option (Int32 × gs_M)
  | 0 => fun _ _ _ _ _ _ _ => none
  | n + 1 => fun x1 x2 x3 x4 x5 x6 μ => Bo_X11_lostOf_6  (L_X11_lostOf_6  n) x1 x2 x3 x4 x5 x6 μ
def D_X11_lostOf (x1 : Int32) (x2 : Int32) (x3 : Int32) (x4 : Int32) (μ : gs_M) : Option (Int32 × gs_M) :=
  L_X11_lostOf_6 4096 x1 x2 x3 x4 (0 : Int32) (0 : Int32) μ
section S_X11_lostOf
variable {p : Program} {l : Launch} {e : Env} {R : Room} {s : State} {m : MethodId} {args : Array Value} {below : List Frame} {meth : Method} {c : Code} {ad : Nat → Nat} {g : va_G} {tyc : Nat → ClassId}
set_option maxRecDepth 20000 in
theorem To_X11_lostOf_6  (hK : KC p R s m args meth c ad g tyc RX11 cX11_lostOf 7 (some .int) 6) {r : Int32} {μ2 : gs_M} {q6 : Int32 → Int32 → Int32 → Int32 → Int32 → Int32 → gs_M → Option (Int32 × gs_M)} (hq6 : ∀ (x1 : Int32) (x2 : Int32) (x3 : Int32) (x4 : Int32) (x5 : Int32) (x6 : Int32) (μ : gs_M), q6 x1 x2 x3 x4 x5 x6 μ = some (r, μ2) → WJ p l e R s m args below meth c 0 0 (MQ below (gs_Q ad g tyc (some (.int r)) μ2) args s 0 0 (gs_A ad)) ad g tyc 7 6 [.ref 0, .int x1, .int x2, .int x3, .int x4, .int x5, .int x6] [] μ) {x1 : Int32} {x2 : Int32} {x3 : Int32} {x4 : Int32} {x5 : Int32} {x6 : Int32} {μ : gs_M}  (hD : Bo_X11_lostOf_6 q6 x1 x2 x3 x4 x5 x6 μ = some (r, μ2)) : WJ p l e R s m args below meth c 0 0 (MQ below (gs_Q ad g tyc (some (.int r)) μ2) args s 0 0 (gs_A ad)) ad g tyc 7 6 [.ref 0, .int x1, .int x2, .int x3, .int x4, .int x5, .int x6] [] μ := by
  unfold Bo_X11_lostOf_6 at hD
  refine r_iload hK d_X11_lostOf_6 rfl ?_
  refine r_iload_n hK d_X11_lostOf_8 rfl rfl ?_
  refine r_icmp_ge (tgt := 75) hK d_X11_lostOf_9 (by decide) (fun h1 => ?_) (fun h1 => ?_)
  · have hD := if_t hD h1
    refine r_iload hK d_X11_lostOf_75 rfl ?_
    cases hD
    exact r_iret hK d_X11_lostOf_77
  · have hD := if_f hD h1
    refine r_iload hK d_X11_lostOf_12 rfl ?_
    refine r_iload hK d_X11_lostOf_14 rfl ?_
    refine r_icmp_gt (tgt := 75) hK d_X11_lostOf_16 (by decide) (fun h2 => ?_) (fun h2 => ?_)
    · have hD := if_t hD h2
      refine r_iload hK d_X11_lostOf_75 rfl ?_
      cases hD
      exact r_iret hK d_X11_lostOf_77
    · have hD := if_f hD h2
      refine r_aload_n hK d_X11_lostOf_19 rfl rfl ?_
      refine r_getR hK d_X11_lostOf_20 fl_RX11_76_10 rfl kd_0 ?_
      refine r_ref (b := 56) R0_0_11 ?_
      refine r_aload_n hK d_X11_lostOf_23 rfl rfl ?_
      refine r_getR hK d_X11_lostOf_24 fl_RX11_73_10 rfl kd_0 ?_
      refine r_ref (b := 46) R0_0_10 ?_
      obtain ⟨u4, e3, hD⟩ := bd0_e hD
      refine r_callV (As := [.ref 46]) (st := []) (stk2 := []) hK (C_X10_become kd_56 kd_46 e3) d_X11_lostOf_27 mf_X10_become ml_RX11_278 im_X10_become rfl se_9_RX10_X10_become kd_56 rfl (Nat.le_of_ble_eq_true rfl) (by decide) ⟨Nat.zero_le _, Nat.zero_le _⟩ rfl rfl ?_
      refine r_aload_n hK d_X11_lostOf_30 rfl rfl ?_
      refine r_getR hK d_X11_lostOf_31 fl_RX11_76_10 rfl kd_0 ?_
      refine r_ref (b := 56) R0_0_11 ?_
      refine r_iload hK d_X11_lostOf_34 rfl ?_
      refine r_i2l hK d_X11_lostOf_36 ?_
      refine r_putL hK d_X11_lostOf_37 fl_RX11_174_9 rfl rfl kd_56 ?_
      refine r_ltm hD (fun u5 hD => ?_)
      refine r_aload_n hK d_X11_lostOf_40 rfl rfl ?_
      refine r_getR hK d_X11_lostOf_41 fl_RX11_76_10 rfl kd_0 ?_
      refine r_ref (b := 56) R0_0_11 ?_
      refine r_iload_n hK d_X11_lostOf_44 rfl rfl ?_
      refine r_iload_n hK d_X11_lostOf_45 rfl rfl ?_
      obtain ⟨u7, e6, hD⟩ := bd0_e hD
      refine r_callV (As := [.int x1, .int x2]) (st := []) (stk2 := []) hK (C_X10_sail kd_56 e6) d_X11_lostOf_46 mf_X10_sail ml_RX11_213 im_X10_sail rfl se_9_RX10_X10_sail kd_56 rfl (Nat.le_of_ble_eq_true rfl) (by decide) ⟨Nat.zero_le _, Nat.zero_le _⟩ rfl rfl ?_
      refine r_iload hK d_X11_lostOf_49 rfl ?_
      refine r_aload_n hK d_X11_lostOf_51 rfl rfl ?_
      refine r_getR hK d_X11_lostOf_52 fl_RX11_76_10 rfl kd_0 ?_
      refine r_ref (b := 56) R0_0_11 ?_
      refine r_getZ hK d_X11_lostOf_55 fl_RX11_262_9 rfl kd_56 ?_
      refine r_if_eq (tgt := 65) hK d_X11_lostOf_58 (by decide) (fun h8 => ?_) (fun h8 => ?_)
      · have hD := if_t hD h8
        refine r_iconst hK d_X11_lostOf_65 ci_0 ?_
        refine r_iadd hK d_X11_lostOf_66 ?_
        refine r_lti hD (fun v9 hD => ?_)
        refine r_istore hK d_X11_lostOf_67 (by decide) (ls2 := [.ref 0, .int x1, .int x2, .int x3, .int x4, .int v9, .int x6]) rfl ?_
        refine r_iinc hK d_X11_lostOf_69 rfl (v := x6 + (1 : Int32)) (by rw [ci_1]) (by decide) (ls2 := [.ref 0, .int x1, .int x2, .int x3, .int x4, .int v9, .int (x6 + (1 : Int32))]) rfl ?_
        refine r_goto (tgt := 6) hK d_X11_lostOf_72 (by decide) ?_
        exact hq6 _ _ _ _ _ _ _  hD
      · have hD := if_f hD h8
        refine r_iconst hK d_X11_lostOf_61 ci_1 ?_
        refine r_goto (tgt := 66) hK d_X11_lostOf_62 (by decide) ?_
        refine r_iadd hK d_X11_lostOf_66 ?_
        refine r_lti hD (fun v10 hD => ?_)
        refine r_istore hK d_X11_lostOf_67 (by decide) (ls2 := [.ref 0, .int x1, .int x2, .int x3, .int x4, .int v10, .int x6]) rfl ?_
        refine r_iinc hK d_X11_lostOf_69 rfl (v := x6 + (1 : Int32)) (by rw [ci_1]) (by decide) (ls2 := [.ref 0, .int x1, .int x2, .int x3, .int x4, .int v10, .int (x6 + (1 : Int32))]) rfl ?_
        refine r_goto (tgt := 6) hK d_X11_lostOf_72 (by decide) ?_
        exact hq6 _ _ _ _ _ _ _  hD
set_option maxRecDepth 20000 in
theorem TL_X11_lostOf_6  (hK : KC p R s m args meth c ad g tyc RX11 cX11_lostOf 7 (some .int) 6) {r : Int32} {μ2 : gs_M}   : ∀ (n : Nat) (x1 : Int32) (x2 : Int32) (x3 : Int32) (x4 : Int32) (x5 : Int32) (x6 : Int32) (μ : gs_M), L_X11_lostOf_6  n x1 x2 x3 x4 x5 x6 μ = some (r, μ2) → WJ p l e R s m args below meth c 0 0 (MQ below (gs_Q ad g tyc (some (.int r)) μ2) args s 0 0 (gs_A ad)) ad g tyc 7 6 [.ref 0, .int x1, .int x2, .int x3, .int x4, .int x5, .int x6] [] μ := by
  intro n
  induction n with
  | zero => intro x1 x2 x3 x4 x5 x6 μ  hD; cases hD
  | succ n ih => intro x1 x2 x3 x4 x5 x6 μ  hD; exact To_X11_lostOf_6 hK  ih  hD
set_option maxRecDepth 20000 in
theorem C_X11_lostOf  {x1 : Int32} {x2 : Int32} {x3 : Int32} {x4 : Int32} {μ : gs_M} {r : Int32} {μ2 : gs_M}  (hD : D_X11_lostOf x1 x2 x3 x4 μ = some (r, μ2)) : CALL yX11_lostOf cX11_lostOf 7 (some .int) 6 [.ref 0, .int x1, .int x2, .int x3, .int x4] μ (some (.int r)) μ2 := by
  unfold D_X11_lostOf at hD
  refine gs_enter mf_X11_lostOf (Nat.le_of_ble_eq_true rfl) (ls := [.ref 0, .int x1, .int x2, .int x3, .int x4, gs_J, gs_J]) rfl (fun p l e R s m args below meth c ad g tyc hK => ?_)
  have hK : KC p R s m args meth c ad g tyc RX11 cX11_lostOf 7 (some .int) 6 := hK
  refine r_iconst hK d_X11_lostOf_0 ci_0 ?_
  refine r_istore hK d_X11_lostOf_1 (by decide) (ls2 := [.ref 0, .int x1, .int x2, .int x3, .int x4, .int (0 : Int32), gs_J]) rfl ?_
  refine r_iconst hK d_X11_lostOf_3 ci_0 ?_
  refine r_istore hK d_X11_lostOf_4 (by decide) (ls2 := [.ref 0, .int x1, .int x2, .int x3, .int x4, .int (0 : Int32), .int (0 : Int32)]) rfl ?_
  exact TL_X11_lostOf_6 hK  _ _ _ _ _ _ _ _  hD
end S_X11_lostOf
theorem d_X11_safe_0 : gd cX11_safe 0 (.aload_n 0) 1 1 := ⟨by decide +kernel, rfl⟩
theorem d_X11_safe_1 : gd cX11_safe 1 (.iload_n 1) 1 2 := ⟨by decide +kernel, rfl⟩
theorem d_X11_safe_2 : gd cX11_safe 2 (.iload_n 2) 1 3 := ⟨by decide +kernel, rfl⟩
theorem d_X11_safe_3 : gd cX11_safe 3 (.invokevirtual 166) 3 6 := ⟨by decide +kernel, rfl⟩
theorem d_X11_safe_6 : gd cX11_safe 6 (.ifCond .eq 14) 3 9 := ⟨by decide +kernel, rfl⟩
theorem d_X11_safe_9 : gd cX11_safe 9 (.iload_n 3) 1 10 := ⟨by decide +kernel, rfl⟩
theorem d_X11_safe_10 : gd cX11_safe 10 (.iload 4) 2 12 := ⟨by decide +kernel, rfl⟩
theorem d_X11_safe_12 : gd cX11_safe 12 (.iload 5) 2 14 := ⟨by decide +kernel, rfl⟩
theorem d_X11_safe_14 : gd cX11_safe 14 (.invokestatic 304) 3 17 := ⟨by decide +kernel, rfl⟩
theorem d_X11_safe_17 : gd cX11_safe 17 (.ifCond .ne 5) 3 20 := ⟨by decide +kernel, rfl⟩
theorem d_X11_safe_20 : gd cX11_safe 20 (.iconst (-1)) 1 21 := ⟨by decide +kernel, rfl⟩
theorem d_X11_safe_21 : gd cX11_safe 21 .ireturn 1 22 := ⟨by decide +kernel, rfl⟩
theorem d_X11_safe_22 : gd cX11_safe 22 (.aload_n 0) 1 23 := ⟨by decide +kernel, rfl⟩
theorem d_X11_safe_23 : gd cX11_safe 23 (.aload_n 0) 1 24 := ⟨by decide +kernel, rfl⟩
theorem d_X11_safe_24 : gd cX11_safe 24 (.getfield 73) 3 27 := ⟨by decide +kernel, rfl⟩
theorem d_X11_safe_27 : gd cX11_safe 27 (.iload_n 1) 1 28 := ⟨by decide +kernel, rfl⟩
theorem d_X11_safe_28 : gd cX11_safe 28 (.iload_n 2) 1 29 := ⟨by decide +kernel, rfl⟩
theorem d_X11_safe_29 : gd cX11_safe 29 (.invokevirtual 170) 3 32 := ⟨by decide +kernel, rfl⟩
theorem d_X11_safe_32 : gd cX11_safe 32 (.iload 5) 2 34 := ⟨by decide +kernel, rfl⟩
theorem d_X11_safe_34 : gd cX11_safe 34 (.aload_n 0) 1 35 := ⟨by decide +kernel, rfl⟩
theorem d_X11_safe_35 : gd cX11_safe 35 (.iload_n 3) 1 36 := ⟨by decide +kernel, rfl⟩
theorem d_X11_safe_36 : gd cX11_safe 36 (.iload 4) 2 38 := ⟨by decide +kernel, rfl⟩
theorem d_X11_safe_38 : gd cX11_safe 38 (.iload 5) 2 40 := ⟨by decide +kernel, rfl⟩
theorem d_X11_safe_40 : gd cX11_safe 40 (.iload 5) 2 42 := ⟨by decide +kernel, rfl⟩
theorem d_X11_safe_42 : gd cX11_safe 42 (.invokevirtual 307) 3 45 := ⟨by decide +kernel, rfl⟩
theorem d_X11_safe_45 : gd cX11_safe 45 .isub 1 46 := ⟨by decide +kernel, rfl⟩
theorem d_X11_safe_46 : gd cX11_safe 46 .ireturn 1 47 := ⟨by decide +kernel, rfl⟩
def D_X11_safe (x1 : Int32) (x2 : Int32) (x3 : Int32) (x4 : Int32) (x5 : Int32) (μ : gs_M) : Option (Int32 × gs_M) :=
  bd (D_X11_canLoad x1 x2 μ) (fun v3 u2 => if v3 = 0 then (some ((-1 : Int32), u2)) else (bd (D_X11_isVoyage x3 x4 x5 u2) (fun v7 u6 => if v7 = 0 then (some ((-1 : Int32), u6)) else (bd0 (D_X11_lay 46 x1 x2 u6) (fun u10 => bd (D_X11_lostOf x3 x4 x5 x5 u10) (fun v13 u12 => some (x5 - v13, u12)))))))
section S_X11_safe
variable {p : Program} {l : Launch} {e : Env} {R : Room} {s : State} {m : MethodId} {args : Array Value} {below : List Frame} {meth : Method} {c : Code} {ad : Nat → Nat} {g : va_G} {tyc : Nat → ClassId}
set_option maxRecDepth 20000 in
theorem C_X11_safe  {x1 : Int32} {x2 : Int32} {x3 : Int32} {x4 : Int32} {x5 : Int32} {μ : gs_M} {r : Int32} {μ2 : gs_M}  (hD : D_X11_safe x1 x2 x3 x4 x5 μ = some (r, μ2)) : CALL yX11_safe cX11_safe 6 (some .int) 7 [.ref 0, .int x1, .int x2, .int x3, .int x4, .int x5] μ (some (.int r)) μ2 := by
  unfold D_X11_safe at hD
  refine gs_enter mf_X11_safe (Nat.le_of_ble_eq_true rfl) (ls := [.ref 0, .int x1, .int x2, .int x3, .int x4, .int x5]) rfl (fun p l e R s m args below meth c ad g tyc hK => ?_)
  have hK : KC p R s m args meth c ad g tyc RX11 cX11_safe 6 (some .int) 7 := hK
  refine r_aload_n hK d_X11_safe_0 rfl rfl ?_
  refine r_iload_n hK d_X11_safe_1 rfl rfl ?_
  refine r_iload_n hK d_X11_safe_2 rfl rfl ?_
  obtain ⟨v3, u2, e1, hD⟩ := bd_e hD
  refine r_callV (As := [.int x1, .int x2]) (st := []) (stk2 := [.int v3]) hK (C_X11_canLoad  e1) d_X11_safe_3 mf_X11_canLoad ml_RX11_166 im_X11_canLoad rfl se_10_RX11_X11_canLoad kd_0 rfl (Nat.le_of_ble_eq_true rfl) (by decide) ⟨Nat.zero_le _, Nat.zero_le _⟩ rfl rfl ?_
  refine r_if_eq (tgt := 20) hK d_X11_safe_6 (by decide) (fun h4 => ?_) (fun h4 => ?_)
  · have hD := if_t hD h4
    refine r_iconst hK d_X11_safe_20 ci_m1 ?_
    cases hD
    exact r_iret hK d_X11_safe_21
  · have hD := if_f hD h4
    refine r_iload_n hK d_X11_safe_9 rfl rfl ?_
    refine r_iload hK d_X11_safe_10 rfl ?_
    refine r_iload hK d_X11_safe_12 rfl ?_
    obtain ⟨v7, u6, e5, hD⟩ := bd_e hD
    refine r_callS (As := [.int x3, .int x4, .int x5]) (st := []) (stk2 := [.int v7]) hK (C_X11_isVoyage  e5) d_X11_safe_14 mf_X11_isVoyage ml_RX11_304 ss_X11_isVoyage rfl (Nat.le_of_ble_eq_true rfl) (by decide) ⟨Nat.zero_le _, Nat.zero_le _⟩ rfl rfl ?_
    refine r_if_ne (tgt := 22) hK d_X11_safe_17 (by decide) (fun h8 => ?_) (fun h8 => ?_)
    · have hD := if_f hD h8
      refine r_aload_n hK d_X11_safe_22 rfl rfl ?_
      refine r_aload_n hK d_X11_safe_23 rfl rfl ?_
      refine r_getR hK d_X11_safe_24 fl_RX11_73_10 rfl kd_0 ?_
      refine r_ref (b := 46) R0_0_10 ?_
      refine r_iload_n hK d_X11_safe_27 rfl rfl ?_
      refine r_iload_n hK d_X11_safe_28 rfl rfl ?_
      obtain ⟨u10, e9, hD⟩ := bd0_e hD
      refine r_callV (As := [.ref 46, .int x1, .int x2]) (st := []) (stk2 := []) hK (C_X11_lay kd_46 e9) d_X11_safe_29 mf_X11_lay ml_RX11_170 im_X11_lay rfl se_10_RX11_X11_lay kd_0 rfl (Nat.le_of_ble_eq_true rfl) (by decide) ⟨Nat.zero_le _, Nat.zero_le _⟩ rfl rfl ?_
      refine r_iload hK d_X11_safe_32 rfl ?_
      refine r_aload_n hK d_X11_safe_34 rfl rfl ?_
      refine r_iload_n hK d_X11_safe_35 rfl rfl ?_
      refine r_iload hK d_X11_safe_36 rfl ?_
      refine r_iload hK d_X11_safe_38 rfl ?_
      refine r_iload hK d_X11_safe_40 rfl ?_
      obtain ⟨v13, u12, e11, hD⟩ := bd_e hD
      refine r_callV (As := [.int x3, .int x4, .int x5, .int x5]) (st := [.int x5]) (stk2 := [.int v13, .int x5]) hK (C_X11_lostOf  e11) d_X11_safe_42 mf_X11_lostOf ml_RX11_307 im_X11_lostOf rfl se_10_RX11_X11_lostOf kd_0 rfl (Nat.le_of_ble_eq_true rfl) (by decide) ⟨Nat.zero_le _, Nat.zero_le _⟩ rfl rfl ?_
      refine r_isub hK d_X11_safe_45 ?_
      cases hD
      exact r_iret hK d_X11_safe_46
    · have hD := if_t hD h8
      refine r_iconst hK d_X11_safe_20 ci_m1 ?_
      cases hD
      exact r_iret hK d_X11_safe_21
end S_X11_safe
