theorem fl_RX11_310_8 : gs_FL RX11 310 "GrainShift$Told" 8 3 (RX9, TX9, 4) := ⟨rfl, by decide, gs_t 108 (by decide +kernel) (by decide +kernel), Or.inl rfl⟩
theorem se_10_RX11_X11_cost : Cond.selects RX11 yX11_cost yX11_cost ∈ gs_tbl := gs_t 823 (by decide +kernel) (by decide +kernel)
theorem ml_RX11_311 : Cond.methodLink RX11 311 yX11_cost ∈ gs_tbl := gs_t 844 (by decide +kernel) (by decide +kernel)
theorem im_X11_cost : Cond.instanceMethod yX11_cost ∈ gs_tbl := gs_t 822 (by decide +kernel) (by decide +kernel)
theorem mf_X11_cheapest : gs_MF yX11_cheapest cX11_cheapest 10 (some .int) 5 := ⟨gs_t 843 (by decide +kernel) (by decide +kernel), gs_t 1 (by decide +kernel) (by decide +kernel), by decide, by decide, by decide +kernel, by decide, by decide⟩
theorem mf_X11_fitted : gs_MF yX11_fitted cX11_fitted 15 (some .int) 7 := ⟨gs_t 848 (by decide +kernel) (by decide +kernel), gs_t 1 (by decide +kernel) (by decide +kernel), by decide, by decide, by decide +kernel, by decide, by decide⟩
theorem fl_RX11_93_10 : gs_FL RX11 93 "GrainShift" 10 15 (RX11, TX11, 20) := ⟨rfl, by decide, gs_t 315 (by decide +kernel) (by decide +kernel), Or.inl rfl⟩
theorem fl_RX11_89_10 : gs_FL RX11 89 "GrainShift" 10 14 (RX11, TX11, 20) := ⟨rfl, by decide, gs_t 314 (by decide +kernel) (by decide +kernel), Or.inl rfl⟩
theorem mf_X11_log : gs_MF yX11_log cX11_log 2 (some .int) 1 := ⟨gs_t 852 (by decide +kernel) (by decide +kernel), gs_t 1 (by decide +kernel) (by decide +kernel), by decide, by decide, by decide +kernel, by decide, by decide⟩
theorem mf_X11_agreesWithLogs : gs_MF yX11_agreesWithLogs cX11_agreesWithLogs 6 (some .boolean) 4 := ⟨gs_t 860 (by decide +kernel) (by decide +kernel), gs_t 1 (by decide +kernel) (by decide +kernel), by decide, by decide, by decide +kernel, by decide, by decide⟩
theorem se_10_RX11_X11_agreesWithLogs : Cond.selects RX11 yX11_agreesWithLogs yX11_agreesWithLogs ∈ gs_tbl := gs_s 28 (by decide +kernel) (by decide +kernel)
theorem ml_RX11_314 : Cond.methodLink RX11 314 yX11_agreesWithLogs ∈ gs_tbl := gs_t 857 (by decide +kernel) (by decide +kernel)
theorem im_X11_agreesWithLogs : Cond.instanceMethod yX11_agreesWithLogs ∈ gs_tbl := gs_t 859 (by decide +kernel) (by decide +kernel)
theorem mf_X11_agree : gs_MF yX11_agree cX11_agree 6 (some .int) 3 := ⟨gs_t 856 (by decide +kernel) (by decide +kernel), gs_t 1 (by decide +kernel) (by decide +kernel), by decide, by decide, by decide +kernel, by decide, by decide⟩
theorem fl_RX11_100_10 : gs_FL RX11 100 "GrainShift" 10 16 (RX11, TX11, 20) := ⟨rfl, by decide, gs_t 316 (by decide +kernel) (by decide +kernel), Or.inl rfl⟩
theorem se_0_RX0_X0_keep : Cond.selects RX0 yX0_keep yX0_keep ∈ gs_tbl := gs_t 867 (by decide +kernel) (by decide +kernel)
theorem ml_RX11_318 : Cond.methodLink RX11 318 yX0_keep ∈ gs_tbl := gs_t 865 (by decide +kernel) (by decide +kernel)
theorem im_X0_keep : Cond.instanceMethod yX0_keep ∈ gs_tbl := gs_t 866 (by decide +kernel) (by decide +kernel)
theorem mf_X11_heap : gs_MF yX11_heap cX11_heap 2 (some .int) 1 := ⟨gs_t 864 (by decide +kernel) (by decide +kernel), gs_t 1 (by decide +kernel) (by decide +kernel), by decide, by decide, by decide +kernel, by decide, by decide⟩
theorem se_0_RX0_X0_missParts : Cond.selects RX0 yX0_missParts yX0_missParts ∈ gs_tbl := gs_t 875 (by decide +kernel) (by decide +kernel)
theorem ml_RX11_320 : Cond.methodLink RX11 320 yX0_missParts ∈ gs_tbl := gs_t 873 (by decide +kernel) (by decide +kernel)
theorem im_X0_missParts : Cond.instanceMethod yX0_missParts ∈ gs_tbl := gs_t 874 (by decide +kernel) (by decide +kernel)
theorem mf_X11_miss : gs_MF yX11_miss cX11_miss 3 (some .int) 2 := ⟨gs_t 872 (by decide +kernel) (by decide +kernel), gs_t 1 (by decide +kernel) (by decide +kernel), by decide, by decide, by decide +kernel, by decide, by decide⟩
theorem kc_RX11_323 : Cond.constant RX11 323 (1000000) ∈ gs_tbl := gs_t 890 (by decide +kernel) (by decide +kernel)
theorem fl_RX11_324_0 : gs_FL RX11 324 "GrainShift$Heap" 0 1 (RX0, TX0, 2) := ⟨rfl, by decide, gs_t 294 (by decide +kernel) (by decide +kernel), Or.inl rfl⟩
theorem mf_X11_enough : gs_MF yX11_enough cX11_enough 4 (some .int) 2 := ⟨gs_t 889 (by decide +kernel) (by decide +kernel), gs_t 1 (by decide +kernel) (by decide +kernel), by decide, by decide, by decide +kernel, by decide, by decide⟩
theorem kc_RX11_325 : Cond.constant RX11 325 (99999) ∈ gs_tbl := gs_t 895 (by decide +kernel) (by decide +kernel)
theorem ml_RX11_326 : Cond.methodLink RX11 326 yX0_noneAbove ∈ gs_tbl := gs_t 896 (by decide +kernel) (by decide +kernel)
theorem kl_RX11_329 : Cond.constantLong RX11 329 (1000000) ∈ gs_tbl := gs_t 897 (by decide +kernel) (by decide +kernel)
theorem mf_X11_refuse : gs_MF yX11_refuse cX11_refuse 7 (some .int) 4 := ⟨gs_t 894 (by decide +kernel) (by decide +kernel), gs_t 1 (by decide +kernel) (by decide +kernel), by decide, by decide, by decide +kernel, by decide, by decide⟩
theorem fl_RX11_70_10 : gs_FL RX11 70 "GrainShift" 10 9 (RX11, TX11, 20) := ⟨rfl, by decide, gs_t 309 (by decide +kernel) (by decide +kernel), Or.inl rfl⟩
theorem mf_X11_image : gs_MF yX11_image cX11_image 1 (some .int) 0 := ⟨gs_t 901 (by decide +kernel) (by decide +kernel), gs_t 1 (by decide +kernel) (by decide +kernel), by decide, by decide, by decide +kernel, by decide, by decide⟩
theorem mf_X11_back : gs_MF yX11_back cX11_back 1 (some .int) 0 := ⟨gs_t 905 (by decide +kernel) (by decide +kernel), gs_t 1 (by decide +kernel) (by decide +kernel), by decide, by decide, by decide +kernel, by decide, by decide⟩
theorem se_1_RX1_X1_evenOut : Cond.selects RX1 yX1_evenOut yX1_evenOut ∈ gs_tbl := gs_t 912 (by decide +kernel) (by decide +kernel)
theorem ml_RX11_331 : Cond.methodLink RX11 331 yX1_evenOut ∈ gs_tbl := gs_t 910 (by decide +kernel) (by decide +kernel)
theorem im_X1_evenOut : Cond.instanceMethod yX1_evenOut ∈ gs_tbl := gs_t 911 (by decide +kernel) (by decide +kernel)
theorem mf_X11_trim : gs_MF yX11_trim cX11_trim 4 (some .int) 2 := ⟨gs_t 909 (by decide +kernel) (by decide +kernel), gs_t 1 (by decide +kernel) (by decide +kernel), by decide, by decide, by decide +kernel, by decide, by decide⟩
theorem ml_RX11_334 : Cond.methodLink RX11 334 yX1_unitsMost ∈ gs_tbl := gs_t 918 (by decide +kernel) (by decide +kernel)
theorem ml_RX11_337 : Cond.methodLink RX11 337 yX11_heldSlope ∈ gs_tbl := gs_t 919 (by decide +kernel) (by decide +kernel)
theorem ml_RX11_340 : Cond.methodLink RX11 340 yX1_restWith ∈ gs_tbl := gs_t 920 (by decide +kernel) (by decide +kernel)
theorem mf_X11_pour : gs_MF yX11_pour cX11_pour 6 (some .int) 3 := ⟨gs_t 917 (by decide +kernel) (by decide +kernel), gs_t 1 (by decide +kernel) (by decide +kernel), by decide, by decide, by decide +kernel, by decide, by decide⟩
theorem mm_RX11_343 : Cond.methodLink RX11 343 Lib.Math.min.name ∈ gs_tbl := gs_t 925 (by decide +kernel) (by decide +kernel)
theorem mf_X11_take : gs_MF yX11_take cX11_take 6 (some .int) 3 := ⟨gs_t 924 (by decide +kernel) (by decide +kernel), gs_t 1 (by decide +kernel) (by decide +kernel), by decide, by decide, by decide +kernel, by decide, by decide⟩
theorem se_9_RX10_X10_heelBy : Cond.selects RX10 yX10_heelBy yX10_heelBy ∈ gs_tbl := gs_t 932 (by decide +kernel) (by decide +kernel)
theorem ml_RX11_346 : Cond.methodLink RX11 346 yX10_heelBy ∈ gs_tbl := gs_t 930 (by decide +kernel) (by decide +kernel)
theorem im_X10_heelBy : Cond.instanceMethod yX10_heelBy ∈ gs_tbl := gs_t 931 (by decide +kernel) (by decide +kernel)
theorem mf_X11_heel : gs_MF yX11_heel cX11_heel 2 (some .int) 1 := ⟨gs_t 929 (by decide +kernel) (by decide +kernel), gs_t 1 (by decide +kernel) (by decide +kernel), by decide, by decide, by decide +kernel, by decide, by decide⟩
theorem fl_RX11_349_1 : gs_FL RX11 349 "GrainShift$Hold" 1 6 (RX1, TX1, 14) := ⟨rfl, by decide, gs_t 200 (by decide +kernel) (by decide +kernel), Or.inl rfl⟩
theorem fl_RX11_352_1 : gs_FL RX11 352 "GrainShift$Hold" 1 7 (RX1, TX1, 14) := ⟨rfl, by decide, gs_t 203 (by decide +kernel) (by decide +kernel), Or.inl rfl⟩
theorem mf_X11_tilt : gs_MF yX11_tilt cX11_tilt 6 (some .int) 3 := ⟨gs_t 937 (by decide +kernel) (by decide +kernel), gs_t 1 (by decide +kernel) (by decide +kernel), by decide, by decide, by decide +kernel, by decide, by decide⟩
theorem mf_X11_ripens : gs_MF yX11_ripens cX11_ripens 5 (some .int) 2 := ⟨gs_t 941 (by decide +kernel) (by decide +kernel), gs_t 1 (by decide +kernel) (by decide +kernel), by decide, by decide, by decide +kernel, by decide, by decide⟩
theorem fl_RX11_355_1 : gs_FL RX11 355 "GrainShift$Hold" 1 1 (RX1, TX1, 14) := ⟨rfl, by decide, gs_t 188 (by decide +kernel) (by decide +kernel), Or.inl rfl⟩
theorem mf_X11_slide : gs_MF yX11_slide cX11_slide 5 (some .int) 2 := ⟨gs_t 945 (by decide +kernel) (by decide +kernel), gs_t 1 (by decide +kernel) (by decide +kernel), by decide, by decide, by decide +kernel, by decide, by decide⟩
theorem fl_RX11_86_10 : gs_FL RX11 86 "GrainShift" 10 13 (RX11, TX11, 20) := ⟨rfl, by decide, gs_t 313 (by decide +kernel) (by decide +kernel), Or.inl rfl⟩
theorem mf_X11_port : gs_MF yX11_port cX11_port 3 (some .int) 2 := ⟨gs_t 949 (by decide +kernel) (by decide +kernel), gs_t 1 (by decide +kernel) (by decide +kernel), by decide, by decide, by decide +kernel, by decide, by decide⟩
theorem mf_X11_portsReached : gs_MF yX11_portsReached cX11_portsReached 5 (some .int) 1 := ⟨gs_t 957 (by decide +kernel) (by decide +kernel), gs_t 1 (by decide +kernel) (by decide +kernel), by decide, by decide, by decide +kernel, by decide, by decide⟩
theorem mf_X11_worthiestOf : gs_MF yX11_worthiestOf cX11_worthiestOf 5 (some .int) 1 := ⟨gs_t 961 (by decide +kernel) (by decide +kernel), gs_t 1 (by decide +kernel) (by decide +kernel), by decide, by decide, by decide +kernel, by decide, by decide⟩
theorem se_10_RX11_X11_portsReached : Cond.selects RX11 yX11_portsReached yX11_portsReached ∈ gs_tbl := gs_s 29 (by decide +kernel) (by decide +kernel)
theorem ml_RX11_358 : Cond.methodLink RX11 358 yX11_portsReached ∈ gs_tbl := gs_t 954 (by decide +kernel) (by decide +kernel)
theorem im_X11_portsReached : Cond.instanceMethod yX11_portsReached ∈ gs_tbl := gs_t 956 (by decide +kernel) (by decide +kernel)
theorem se_10_RX11_X11_worthiestOf : Cond.selects RX11 yX11_worthiestOf yX11_worthiestOf ∈ gs_tbl := gs_s 30 (by decide +kernel) (by decide +kernel)
theorem ml_RX11_361 : Cond.methodLink RX11 361 yX11_worthiestOf ∈ gs_tbl := gs_t 958 (by decide +kernel) (by decide +kernel)
theorem im_X11_worthiestOf : Cond.instanceMethod yX11_worthiestOf ∈ gs_tbl := gs_t 960 (by decide +kernel) (by decide +kernel)
theorem mf_X11_reach : gs_MF yX11_reach cX11_reach 4 (some .int) 2 := ⟨gs_t 953 (by decide +kernel) (by decide +kernel), gs_t 1 (by decide +kernel) (by decide +kernel), by decide, by decide, by decide +kernel, by decide, by decide⟩
theorem mm_RX11_364 : Cond.methodLink RX11 364 Lib.Math.max.name ∈ gs_tbl := gs_t 966 (by decide +kernel) (by decide +kernel)
theorem mf_X11_over : gs_MF yX11_over cX11_over 10 (some .int) 4 := ⟨gs_t 965 (by decide +kernel) (by decide +kernel), gs_t 1 (by decide +kernel) (by decide +kernel), by decide, by decide, by decide +kernel, by decide, by decide⟩
theorem mf_X11_soonest : gs_MF yX11_soonest cX11_soonest 3 (some .int) 1 := ⟨gs_t 970 (by decide +kernel) (by decide +kernel), gs_t 1 (by decide +kernel) (by decide +kernel), by decide, by decide, by decide +kernel, by decide, by decide⟩
theorem fl_RX11_104_10 : gs_FL RX11 104 "GrainShift" 10 17 (RX11, TX11, 20) := ⟨rfl, by decide, gs_t 317 (by decide +kernel) (by decide +kernel), Or.inl rfl⟩
theorem mf_X11_bookIsOff : gs_MF yX11_bookIsOff cX11_bookIsOff 7 (some .int) 1 := ⟨gs_t 982 (by decide +kernel) (by decide +kernel), gs_t 1 (by decide +kernel) (by decide +kernel), by decide, by decide, by decide +kernel, by decide, by decide⟩
theorem se_10_RX11_X11_bookIsOff : Cond.selects RX11 yX11_bookIsOff yX11_bookIsOff ∈ gs_tbl := gs_s 32 (by decide +kernel) (by decide +kernel)
theorem ml_RX11_370 : Cond.methodLink RX11 370 yX11_bookIsOff ∈ gs_tbl := gs_t 979 (by decide +kernel) (by decide +kernel)
theorem im_X11_bookIsOff : Cond.instanceMethod yX11_bookIsOff ∈ gs_tbl := gs_t 981 (by decide +kernel) (by decide +kernel)
theorem mf_X11_bestTimes : gs_MF yX11_bestTimes cX11_bestTimes 5 (some .int) 0 := ⟨gs_t 978 (by decide +kernel) (by decide +kernel), gs_t 1 (by decide +kernel) (by decide +kernel), by decide, by decide, by decide +kernel, by decide, by decide⟩
theorem se_10_RX11_X11_bestTimes : Cond.selects RX11 yX11_bestTimes yX11_bestTimes ∈ gs_tbl := gs_s 31 (by decide +kernel) (by decide +kernel)
theorem ml_RX11_367 : Cond.methodLink RX11 367 yX11_bestTimes ∈ gs_tbl := gs_t 975 (by decide +kernel) (by decide +kernel)
theorem im_X11_bestTimes : Cond.instanceMethod yX11_bestTimes ∈ gs_tbl := gs_t 977 (by decide +kernel) (by decide +kernel)
theorem mf_X11_book : gs_MF yX11_book cX11_book 3 (some .int) 1 := ⟨gs_t 974 (by decide +kernel) (by decide +kernel), gs_t 1 (by decide +kernel) (by decide +kernel), by decide, by decide, by decide +kernel, by decide, by decide⟩
theorem fl_RX11_383_5 : gs_FL RX11 383 "GrainShift$Rules" 5 0 (RX6, TX6, 6) := ⟨rfl, by decide, gs_t 129 (by decide +kernel) (by decide +kernel), Or.inl rfl⟩
theorem se_9_RX10_X10_mostShaken : Cond.selects RX10 yX10_mostShaken yX10_mostShaken ∈ gs_tbl := gs_t 997 (by decide +kernel) (by decide +kernel)
theorem ml_RX11_386 : Cond.methodLink RX11 386 yX10_mostShaken ∈ gs_tbl := gs_t 995 (by decide +kernel) (by decide +kernel)
theorem im_X10_mostShaken : Cond.instanceMethod yX10_mostShaken ∈ gs_tbl := gs_t 996 (by decide +kernel) (by decide +kernel)
theorem se_5_RX6_X6_worth : Cond.selects RX6 yX6_worth yX6_worth ∈ gs_tbl := gs_t 1002 (by decide +kernel) (by decide +kernel)
theorem ml_RX11_389 : Cond.methodLink RX11 389 yX6_worth ∈ gs_tbl := gs_t 1000 (by decide +kernel) (by decide +kernel)
theorem im_X6_worth : Cond.instanceMethod yX6_worth ∈ gs_tbl := gs_t 1001 (by decide +kernel) (by decide +kernel)
theorem fl_RX11_107_10 : gs_FL RX11 107 "GrainShift" 10 18 (RX11, TX11, 20) := ⟨rfl, by decide, gs_t 318 (by decide +kernel) (by decide +kernel), Or.inl rfl⟩
theorem mf_X11_turnBallast : gs_MF yX11_turnBallast cX11_turnBallast 5 none 2 := ⟨gs_t 994 (by decide +kernel) (by decide +kernel), gs_t 1 (by decide +kernel) (by decide +kernel), by decide, by decide, by decide +kernel, by decide, by decide⟩
theorem se_10_RX11_X11_turnBallast : Cond.selects RX11 yX11_turnBallast yX11_turnBallast ∈ gs_tbl := gs_s 34 (by decide +kernel) (by decide +kernel)
theorem ml_RX11_380 : Cond.methodLink RX11 380 yX11_turnBallast ∈ gs_tbl := gs_t 991 (by decide +kernel) (by decide +kernel)
theorem im_X11_turnBallast : Cond.instanceMethod yX11_turnBallast ∈ gs_tbl := gs_t 993 (by decide +kernel) (by decide +kernel)
theorem mf_X11_followRule : gs_MF yX11_followRule cX11_followRule 8 none 4 := ⟨gs_t 990 (by decide +kernel) (by decide +kernel), gs_t 1 (by decide +kernel) (by decide +kernel), by decide, by decide, by decide +kernel, by decide, by decide⟩
theorem fl_RX11_373_5 : gs_FL RX11 373 "GrainShift$Rules" 5 1 (RX6, TX6, 6) := ⟨rfl, by decide, gs_t 131 (by decide +kernel) (by decide +kernel), Or.inl rfl⟩
theorem se_10_RX11_X11_followRule : Cond.selects RX11 yX11_followRule yX11_followRule ∈ gs_tbl := gs_s 33 (by decide +kernel) (by decide +kernel)
theorem ml_RX11_376 : Cond.methodLink RX11 376 yX11_followRule ∈ gs_tbl := gs_t 987 (by decide +kernel) (by decide +kernel)
theorem im_X11_followRule : Cond.instanceMethod yX11_followRule ∈ gs_tbl := gs_t 989 (by decide +kernel) (by decide +kernel)
theorem mf_X11_follow : gs_MF yX11_follow cX11_follow 6 (some .int) 5 := ⟨gs_t 986 (by decide +kernel) (by decide +kernel), gs_t 1 (by decide +kernel) (by decide +kernel), by decide, by decide, by decide +kernel, by decide, by decide⟩
theorem fl_RX11_110_10 : gs_FL RX11 110 "GrainShift" 10 19 (RX11, TX11, 20) := ⟨rfl, by decide, gs_t 319 (by decide +kernel) (by decide +kernel), Or.inl rfl⟩
theorem mf_X11_isBestOutcome : gs_MF yX11_isBestOutcome cX11_isBestOutcome 2 (some .boolean) 0 := ⟨gs_t 1033 (by decide +kernel) (by decide +kernel), gs_t 1 (by decide +kernel) (by decide +kernel), by decide, by decide, by decide +kernel, by decide, by decide⟩
theorem se_10_RX11_X11_isBestOutcome : Cond.selects RX11 yX11_isBestOutcome yX11_isBestOutcome ∈ gs_tbl := gs_s 38 (by decide +kernel) (by decide +kernel)
theorem ml_RX11_395 : Cond.methodLink RX11 395 yX11_isBestOutcome ∈ gs_tbl := gs_t 1030 (by decide +kernel) (by decide +kernel)
theorem im_X11_isBestOutcome : Cond.instanceMethod yX11_isBestOutcome ∈ gs_tbl := gs_t 1032 (by decide +kernel) (by decide +kernel)
theorem mf_X11_better : gs_MF yX11_better cX11_better 7 (some .int) 3 := ⟨gs_t 1029 (by decide +kernel) (by decide +kernel), gs_t 1 (by decide +kernel) (by decide +kernel), by decide, by decide, by decide +kernel, by decide, by decide⟩
theorem mf_X11_rules : gs_MF yX11_rules cX11_rules 1 (some .int) 0 := ⟨gs_t 1037 (by decide +kernel) (by decide +kernel), gs_t 1 (by decide +kernel) (by decide +kernel), by decide, by decide, by decide +kernel, by decide, by decide⟩
theorem mf_X11_count : gs_MF yX11_count cX11_count 2 (some .int) 1 := ⟨gs_t 1041 (by decide +kernel) (by decide +kernel), gs_t 1 (by decide +kernel) (by decide +kernel), by decide, by decide, by decide +kernel, by decide, by decide⟩
theorem d_X11_cheapest_0 : gd cX11_cheapest 0 (.aload_n 0) 1 1 := ⟨by decide +kernel, rfl⟩
theorem d_X11_cheapest_1 : gd cX11_cheapest 1 (.getfield 41) 3 4 := ⟨by decide +kernel, rfl⟩
theorem d_X11_cheapest_4 : gd cX11_cheapest 4 (.iload_n 1) 1 5 := ⟨by decide +kernel, rfl⟩
theorem d_X11_cheapest_5 : gd cX11_cheapest 5 (.invokevirtual 143) 3 8 := ⟨by decide +kernel, rfl⟩
theorem d_X11_cheapest_8 : gd cX11_cheapest 8 (.ifCond .eq 23) 3 11 := ⟨by decide +kernel, rfl⟩
theorem d_X11_cheapest_11 : gd cX11_cheapest 11 (.iload_n 2) 1 12 := ⟨by decide +kernel, rfl⟩
theorem d_X11_cheapest_12 : gd cX11_cheapest 12 (.iload_n 3) 1 13 := ⟨by decide +kernel, rfl⟩
theorem d_X11_cheapest_13 : gd cX11_cheapest 13 (.iload 4) 2 15 := ⟨by decide +kernel, rfl⟩
theorem d_X11_cheapest_15 : gd cX11_cheapest 15 (.invokestatic 304) 3 18 := ⟨by decide +kernel, rfl⟩
theorem d_X11_cheapest_18 : gd cX11_cheapest 18 (.ifCond .eq 13) 3 21 := ⟨by decide +kernel, rfl⟩
theorem d_X11_cheapest_21 : gd cX11_cheapest 21 (.iload 5) 2 23 := ⟨by decide +kernel, rfl⟩
theorem d_X11_cheapest_23 : gd cX11_cheapest 23 (.iconst 0) 1 24 := ⟨by decide +kernel, rfl⟩
theorem d_X11_cheapest_24 : gd cX11_cheapest 24 (.iconst 5) 1 25 := ⟨by decide +kernel, rfl⟩
theorem d_X11_cheapest_25 : gd cX11_cheapest 25 (.invokestatic 123) 3 28 := ⟨by decide +kernel, rfl⟩
theorem d_X11_cheapest_28 : gd cX11_cheapest 28 (.ifCond .ne 5) 3 31 := ⟨by decide +kernel, rfl⟩
theorem d_X11_cheapest_31 : gd cX11_cheapest 31 (.iconst (-1)) 1 32 := ⟨by decide +kernel, rfl⟩
theorem d_X11_cheapest_32 : gd cX11_cheapest 32 .ireturn 1 33 := ⟨by decide +kernel, rfl⟩
theorem d_X11_cheapest_33 : gd cX11_cheapest 33 (.iconst (-1)) 1 34 := ⟨by decide +kernel, rfl⟩
theorem d_X11_cheapest_34 : gd cX11_cheapest 34 (.istore 6) 2 36 := ⟨by decide +kernel, rfl⟩
theorem d_X11_cheapest_36 : gd cX11_cheapest 36 (.iconst 0) 1 37 := ⟨by decide +kernel, rfl⟩
theorem d_X11_cheapest_37 : gd cX11_cheapest 37 (.istore 7) 2 39 := ⟨by decide +kernel, rfl⟩
theorem d_X11_cheapest_39 : gd cX11_cheapest 39 (.iconst 0) 1 40 := ⟨by decide +kernel, rfl⟩
theorem d_X11_cheapest_40 : gd cX11_cheapest 40 (.istore 8) 2 42 := ⟨by decide +kernel, rfl⟩
theorem d_X11_cheapest_42 : gd cX11_cheapest 42 (.iload 8) 2 44 := ⟨by decide +kernel, rfl⟩
theorem d_X11_cheapest_44 : gd cX11_cheapest 44 (.aload_n 0) 1 45 := ⟨by decide +kernel, rfl⟩
theorem d_X11_cheapest_45 : gd cX11_cheapest 45 (.getfield 44) 3 48 := ⟨by decide +kernel, rfl⟩
theorem d_X11_cheapest_48 : gd cX11_cheapest 48 (.getfield 310) 3 51 := ⟨by decide +kernel, rfl⟩
theorem d_X11_cheapest_51 : gd cX11_cheapest 51 (.if_icmp .ge 88) 3 54 := ⟨by decide +kernel, rfl⟩
theorem d_X11_cheapest_54 : gd cX11_cheapest 54 (.aload_n 0) 1 55 := ⟨by decide +kernel, rfl⟩
theorem d_X11_cheapest_55 : gd cX11_cheapest 55 (.iload_n 1) 1 56 := ⟨by decide +kernel, rfl⟩
theorem d_X11_cheapest_56 : gd cX11_cheapest 56 (.iload 8) 2 58 := ⟨by decide +kernel, rfl⟩
theorem d_X11_cheapest_58 : gd cX11_cheapest 58 (.invokevirtual 166) 3 61 := ⟨by decide +kernel, rfl⟩
theorem d_X11_cheapest_61 : gd cX11_cheapest 61 (.ifCond .eq 13) 3 64 := ⟨by decide +kernel, rfl⟩
theorem d_X11_cheapest_64 : gd cX11_cheapest 64 (.aload_n 0) 1 65 := ⟨by decide +kernel, rfl⟩
theorem d_X11_cheapest_65 : gd cX11_cheapest 65 (.iload_n 1) 1 66 := ⟨by decide +kernel, rfl⟩
theorem d_X11_cheapest_66 : gd cX11_cheapest 66 (.iload 8) 2 68 := ⟨by decide +kernel, rfl⟩
theorem d_X11_cheapest_68 : gd cX11_cheapest 68 (.invokevirtual 311) 3 71 := ⟨by decide +kernel, rfl⟩
theorem d_X11_cheapest_71 : gd cX11_cheapest 71 (.goto 4) 3 74 := ⟨by decide +kernel, rfl⟩
theorem d_X11_cheapest_74 : gd cX11_cheapest 74 (.iconst (-1)) 1 75 := ⟨by decide +kernel, rfl⟩
theorem d_X11_cheapest_75 : gd cX11_cheapest 75 (.istore 9) 2 77 := ⟨by decide +kernel, rfl⟩
theorem d_X11_cheapest_77 : gd cX11_cheapest 77 (.iload 9) 2 79 := ⟨by decide +kernel, rfl⟩
theorem d_X11_cheapest_79 : gd cX11_cheapest 79 (.iconst (-1)) 1 80 := ⟨by decide +kernel, rfl⟩
theorem d_X11_cheapest_80 : gd cX11_cheapest 80 (.if_icmp .eq 53) 3 83 := ⟨by decide +kernel, rfl⟩
theorem d_X11_cheapest_83 : gd cX11_cheapest 83 (.iload 6) 2 85 := ⟨by decide +kernel, rfl⟩
theorem d_X11_cheapest_85 : gd cX11_cheapest 85 (.iconst (-1)) 1 86 := ⟨by decide +kernel, rfl⟩
theorem d_X11_cheapest_86 : gd cX11_cheapest 86 (.if_icmp .eq 13) 3 89 := ⟨by decide +kernel, rfl⟩
theorem d_X11_cheapest_89 : gd cX11_cheapest 89 (.iload 9) 2 91 := ⟨by decide +kernel, rfl⟩
theorem d_X11_cheapest_91 : gd cX11_cheapest 91 (.iload 7) 2 93 := ⟨by decide +kernel, rfl⟩
theorem d_X11_cheapest_93 : gd cX11_cheapest 93 (.if_icmp .lt 6) 3 96 := ⟨by decide +kernel, rfl⟩
theorem d_X11_cheapest_96 : gd cX11_cheapest 96 (.goto 37) 3 99 := ⟨by decide +kernel, rfl⟩
theorem d_X11_cheapest_99 : gd cX11_cheapest 99 (.aload_n 0) 1 100 := ⟨by decide +kernel, rfl⟩
theorem d_X11_cheapest_100 : gd cX11_cheapest 100 (.aload_n 0) 1 101 := ⟨by decide +kernel, rfl⟩
theorem d_X11_cheapest_101 : gd cX11_cheapest 101 (.getfield 73) 3 104 := ⟨by decide +kernel, rfl⟩
theorem d_X11_cheapest_104 : gd cX11_cheapest 104 (.iload_n 1) 1 105 := ⟨by decide +kernel, rfl⟩
theorem d_X11_cheapest_105 : gd cX11_cheapest 105 (.iload 8) 2 107 := ⟨by decide +kernel, rfl⟩
theorem d_X11_cheapest_107 : gd cX11_cheapest 107 (.invokevirtual 170) 3 110 := ⟨by decide +kernel, rfl⟩
theorem d_X11_cheapest_110 : gd cX11_cheapest 110 (.aload_n 0) 1 111 := ⟨by decide +kernel, rfl⟩
theorem d_X11_cheapest_111 : gd cX11_cheapest 111 (.iload_n 2) 1 112 := ⟨by decide +kernel, rfl⟩
theorem d_X11_cheapest_112 : gd cX11_cheapest 112 (.iload_n 3) 1 113 := ⟨by decide +kernel, rfl⟩
theorem d_X11_cheapest_113 : gd cX11_cheapest 113 (.iload 4) 2 115 := ⟨by decide +kernel, rfl⟩
theorem d_X11_cheapest_115 : gd cX11_cheapest 115 (.iload 5) 2 117 := ⟨by decide +kernel, rfl⟩
theorem d_X11_cheapest_117 : gd cX11_cheapest 117 (.invokevirtual 307) 3 120 := ⟨by decide +kernel, rfl⟩
theorem d_X11_cheapest_120 : gd cX11_cheapest 120 (.iload 5) 2 122 := ⟨by decide +kernel, rfl⟩
theorem d_X11_cheapest_122 : gd cX11_cheapest 122 (.if_icmp .gt 11) 3 125 := ⟨by decide +kernel, rfl⟩
theorem d_X11_cheapest_125 : gd cX11_cheapest 125 (.iload 8) 2 127 := ⟨by decide +kernel, rfl⟩
theorem d_X11_cheapest_127 : gd cX11_cheapest 127 (.istore 6) 2 129 := ⟨by decide +kernel, rfl⟩
theorem d_X11_cheapest_129 : gd cX11_cheapest 129 (.iload 9) 2 131 := ⟨by decide +kernel, rfl⟩
theorem d_X11_cheapest_131 : gd cX11_cheapest 131 (.istore 7) 2 133 := ⟨by decide +kernel, rfl⟩
theorem d_X11_cheapest_133 : gd cX11_cheapest 133 (.iinc 8 1) 3 136 := ⟨by decide +kernel, rfl⟩
theorem d_X11_cheapest_136 : gd cX11_cheapest 136 (.goto (-94)) 3 139 := ⟨by decide +kernel, rfl⟩
theorem d_X11_cheapest_139 : gd cX11_cheapest 139 (.iload 6) 2 141 := ⟨by decide +kernel, rfl⟩
theorem d_X11_cheapest_141 : gd cX11_cheapest 141 .ireturn 1 142 := ⟨by decide +kernel, rfl⟩
def B_X11_cheapest_99 (q42 : Int32 → Int32 → Int32 → Int32 → Int32 → Int32 → Int32 → Int32 → gs_M → Option (Int32 × gs_M)) (x1 : Int32) (x2 : Int32) (x3 : Int32) (x4 : Int32) (x5 : Int32) (x6 : Int32) (x7 : Int32) (x8 : Int32) (x9 : Int32) (μ : gs_M) : Option (Int32 × gs_M) :=
  bd0 (D_X11_lay 46 x1 x8 μ) (fun u2 => bd (D_X11_lostOf x2 x3 x4 x5 u2) (fun v5 u4 => if x5 < v5 then (q42 x1 x2 x3 x4 x5 x6 x7 (x8 + (1 : Int32)) u4) else (q42 x1 x2 x3 x4 x5 x8 x9 (x8 + (1 : Int32)) u4)))
def B_X11_cheapest_75 (q42 : Int32 → Int32 → Int32 → Int32 → Int32 → Int32 → Int32 → Int32 → gs_M → Option (Int32 × gs_M)) (x1 : Int32) (x2 : Int32) (x3 : Int32) (x4 : Int32) (x5 : Int32) (x6 : Int32) (x7 : Int32) (x8 : Int32) (xs0 : Int32) (μ : gs_M) : Option (Int32 × gs_M) :=
  if xs0 = (-1 : Int32) then (q42 x1 x2 x3 x4 x5 x6 x7 (x8 + (1 : Int32)) μ) else (if x6 = (-1 : Int32) then (B_X11_cheapest_99 q42 x1 x2 x3 x4 x5 x6 x7 x8 xs0 μ) else (if xs0 < x7 then (B_X11_cheapest_99 q42 x1 x2 x3 x4 x5 x6 x7 x8 xs0 μ) else (q42 x1 x2 x3 x4 x5 x6 x7 (x8 + (1 : Int32)) μ)))
def Bo_X11_cheapest_42 (q42 : Int32 → Int32 → Int32 → Int32 → Int32 → Int32 → Int32 → Int32 → gs_M → Option (Int32 × gs_M)) (x1 : Int32) (x2 : Int32) (x3 : Int32) (x4 : Int32) (x5 : Int32) (x6 : Int32) (x7 : Int32) (x8 : Int32) (μ : gs_M) : Option (Int32 × gs_M) :=
  if (gI μ 13 3) ≤ x8 then (some (x6, μ)) else (bd (D_X11_canLoad x1 x8 μ) (fun v4 u3 => if v4 = 0 then (B_X11_cheapest_75 q42 x1 x2 x3 x4 x5 x6 x7 x8 (-1 : Int32) u3) else (bd (D_X11_cost x1 x8 u3) (fun v8 u7 => B_X11_cheapest_75 q42 x1 x2 x3 x4 x5 x6 x7 x8 v8 u7))))
def L_X11_cheapest_42  : Nat → Int32 → Int32 → Int32 → Int32 → Int32 → Int32 → Int32 → Int32 → gs_M → Option (Int32 × gs_M)
  | 0 => fun _ _ _ _ _ _ _ _ _ => none
  | n + 1 => fun x1 x2 x3 x4 x5 x6 x7 x8 μ => Bo_X11_cheapest_42  (L_X11_cheapest_42  n) x1 x2 x3 x4 x5 x6 x7 x8 μ
def D_X11_cheapest (x1 : Int32) (x2 : Int32) (x3 : Int32) (x4 : Int32) (x5 : Int32) (μ : gs_M) : Option (Int32 × gs_M) :=
  bd (D_X9_has 10 x1 μ) (fun v3 u2 => if v3 = 0 then (some ((-1 : Int32), u2)) else (bd (D_X11_isVoyage x2 x3 x4 u2) (fun v7 u6 => if v7 = 0 then (some ((-1 : Int32), u6)) else (bd (D_X11_within x5 (0 : Int32) (5 : Int32) u6) (fun v11 u10 => if v11 = 0 then (some ((-1 : Int32), u10)) else (L_X11_cheapest_42 4096 x1 x2 x3 x4 x5 (-1 : Int32) (0 : Int32) (0 : Int32) u10))))))
section S_X11_cheapest
variable {p : Program} {l : Launch} {e : Env} {R : Room} {s : State} {m : MethodId} {args : Array Value} {below : List Frame} {meth : Method} {c : Code} {ad : Nat → Nat} {g : va_G} {tyc : Nat → ClassId}
set_option maxRecDepth 20000 in
theorem T_X11_cheapest_99  (hK : KC p R s m args meth c ad g tyc RX11 cX11_cheapest 10 (some .int) 7) {r : Int32} {μ2 : gs_M} {q42 : Int32 → Int32 → Int32 → Int32 → Int32 → Int32 → Int32 → Int32 → gs_M → Option (Int32 × gs_M)} (hq42 : ∀ (x1 : Int32) (x2 : Int32) (x3 : Int32) (x4 : Int32) (x5 : Int32) (x6 : Int32) (x7 : Int32) (x8 : Int32) (μ : gs_M), q42 x1 x2 x3 x4 x5 x6 x7 x8 μ = some (r, μ2) → WJ p l e R s m args below meth c 0 0 (MQ below (gs_Q ad g tyc (some (.int r)) μ2) args s 0 0 (gs_A ad)) ad g tyc 10 42 [.ref 0, .int x1, .int x2, .int x3, .int x4, .int x5, .int x6, .int x7, .int x8, gs_J] [] μ) {x1 : Int32} {x2 : Int32} {x3 : Int32} {x4 : Int32} {x5 : Int32} {x6 : Int32} {x7 : Int32} {x8 : Int32} {x9 : Int32} {μ : gs_M}  (hD : B_X11_cheapest_99 q42 x1 x2 x3 x4 x5 x6 x7 x8 x9 μ = some (r, μ2)) : WJ p l e R s m args below meth c 0 0 (MQ below (gs_Q ad g tyc (some (.int r)) μ2) args s 0 0 (gs_A ad)) ad g tyc 10 99 [.ref 0, .int x1, .int x2, .int x3, .int x4, .int x5, .int x6, .int x7, .int x8, .int x9] [] μ := by
  unfold B_X11_cheapest_99 at hD
  refine r_aload_n hK d_X11_cheapest_99 rfl rfl ?_
  refine r_aload_n hK d_X11_cheapest_100 rfl rfl ?_
  refine r_getR hK d_X11_cheapest_101 fl_RX11_73_10 rfl kd_0 ?_
  refine r_ref (b := 46) R0_0_10 ?_
  refine r_iload_n hK d_X11_cheapest_104 rfl rfl ?_
  refine r_iload hK d_X11_cheapest_105 rfl ?_
  obtain ⟨u2, e1, hD⟩ := bd0_e hD
  refine r_callV (As := [.ref 46, .int x1, .int x8]) (st := []) (stk2 := []) hK (C_X11_lay kd_46 e1) d_X11_cheapest_107 mf_X11_lay ml_RX11_170 im_X11_lay rfl se_10_RX11_X11_lay kd_0 rfl (Nat.le_of_ble_eq_true rfl) (by decide) ⟨Nat.zero_le _, Nat.zero_le _⟩ rfl rfl ?_
  refine r_aload_n hK d_X11_cheapest_110 rfl rfl ?_
  refine r_iload_n hK d_X11_cheapest_111 rfl rfl ?_
  refine r_iload_n hK d_X11_cheapest_112 rfl rfl ?_
  refine r_iload hK d_X11_cheapest_113 rfl ?_
  refine r_iload hK d_X11_cheapest_115 rfl ?_
  obtain ⟨v5, u4, e3, hD⟩ := bd_e hD
  refine r_callV (As := [.int x2, .int x3, .int x4, .int x5]) (st := []) (stk2 := [.int v5]) hK (C_X11_lostOf  e3) d_X11_cheapest_117 mf_X11_lostOf ml_RX11_307 im_X11_lostOf rfl se_10_RX11_X11_lostOf kd_0 rfl (Nat.le_of_ble_eq_true rfl) (by decide) ⟨Nat.zero_le _, Nat.zero_le _⟩ rfl rfl ?_
  refine r_iload hK d_X11_cheapest_120 rfl ?_
  refine r_icmp_gt (tgt := 133) hK d_X11_cheapest_122 (by decide) (fun h6 => ?_) (fun h6 => ?_)
  · have hD := if_t hD h6
    refine r_iinc hK d_X11_cheapest_133 rfl (v := x8 + (1 : Int32)) (by rw [ci_1]) (by decide) (ls2 := [.ref 0, .int x1, .int x2, .int x3, .int x4, .int x5, .int x6, .int x7, .int (x8 + (1 : Int32)), .int x9]) rfl ?_
    refine r_goto (tgt := 42) hK d_X11_cheapest_136 (by decide) ?_
    refine r_junk [true, true, true, true, true, true, true, true, true, false] (ls2 := [.ref 0, .int x1, .int x2, .int x3, .int x4, .int x5, .int x6, .int x7, .int (x8 + (1 : Int32)), gs_J]) rfl ?_
    exact hq42 _ _ _ _ _ _ _ _ _  hD
  · have hD := if_f hD h6
    refine r_iload hK d_X11_cheapest_125 rfl ?_
    refine r_istore hK d_X11_cheapest_127 (by decide) (ls2 := [.ref 0, .int x1, .int x2, .int x3, .int x4, .int x5, .int x8, .int x7, .int x8, .int x9]) rfl ?_
    refine r_iload hK d_X11_cheapest_129 rfl ?_
    refine r_istore hK d_X11_cheapest_131 (by decide) (ls2 := [.ref 0, .int x1, .int x2, .int x3, .int x4, .int x5, .int x8, .int x9, .int x8, .int x9]) rfl ?_
    refine r_iinc hK d_X11_cheapest_133 rfl (v := x8 + (1 : Int32)) (by rw [ci_1]) (by decide) (ls2 := [.ref 0, .int x1, .int x2, .int x3, .int x4, .int x5, .int x8, .int x9, .int (x8 + (1 : Int32)), .int x9]) rfl ?_
    refine r_goto (tgt := 42) hK d_X11_cheapest_136 (by decide) ?_
    refine r_junk [true, true, true, true, true, true, true, true, true, false] (ls2 := [.ref 0, .int x1, .int x2, .int x3, .int x4, .int x5, .int x8, .int x9, .int (x8 + (1 : Int32)), gs_J]) rfl ?_
    exact hq42 _ _ _ _ _ _ _ _ _  hD
set_option maxRecDepth 20000 in
theorem T_X11_cheapest_75  (hK : KC p R s m args meth c ad g tyc RX11 cX11_cheapest 10 (some .int) 7) {r : Int32} {μ2 : gs_M} {q42 : Int32 → Int32 → Int32 → Int32 → Int32 → Int32 → Int32 → Int32 → gs_M → Option (Int32 × gs_M)} (hq42 : ∀ (x1 : Int32) (x2 : Int32) (x3 : Int32) (x4 : Int32) (x5 : Int32) (x6 : Int32) (x7 : Int32) (x8 : Int32) (μ : gs_M), q42 x1 x2 x3 x4 x5 x6 x7 x8 μ = some (r, μ2) → WJ p l e R s m args below meth c 0 0 (MQ below (gs_Q ad g tyc (some (.int r)) μ2) args s 0 0 (gs_A ad)) ad g tyc 10 42 [.ref 0, .int x1, .int x2, .int x3, .int x4, .int x5, .int x6, .int x7, .int x8, gs_J] [] μ) {x1 : Int32} {x2 : Int32} {x3 : Int32} {x4 : Int32} {x5 : Int32} {x6 : Int32} {x7 : Int32} {x8 : Int32} {xs0 : Int32} {μ : gs_M}  (hD : B_X11_cheapest_75 q42 x1 x2 x3 x4 x5 x6 x7 x8 xs0 μ = some (r, μ2)) : WJ p l e R s m args below meth c 0 0 (MQ below (gs_Q ad g tyc (some (.int r)) μ2) args s 0 0 (gs_A ad)) ad g tyc 10 75 [.ref 0, .int x1, .int x2, .int x3, .int x4, .int x5, .int x6, .int x7, .int x8, gs_J] [.int xs0] μ := by
  unfold B_X11_cheapest_75 at hD
  refine r_istore hK d_X11_cheapest_75 (by decide) (ls2 := [.ref 0, .int x1, .int x2, .int x3, .int x4, .int x5, .int x6, .int x7, .int x8, .int xs0]) rfl ?_
  refine r_iload hK d_X11_cheapest_77 rfl ?_
  refine r_iconst hK d_X11_cheapest_79 ci_m1 ?_
  refine r_icmp_eq (tgt := 133) hK d_X11_cheapest_80 (by decide) (fun h1 => ?_) (fun h1 => ?_)
  · have hD := if_t hD h1
    refine r_iinc hK d_X11_cheapest_133 rfl (v := x8 + (1 : Int32)) (by rw [ci_1]) (by decide) (ls2 := [.ref 0, .int x1, .int x2, .int x3, .int x4, .int x5, .int x6, .int x7, .int (x8 + (1 : Int32)), .int xs0]) rfl ?_
    refine r_goto (tgt := 42) hK d_X11_cheapest_136 (by decide) ?_
    refine r_junk [true, true, true, true, true, true, true, true, true, false] (ls2 := [.ref 0, .int x1, .int x2, .int x3, .int x4, .int x5, .int x6, .int x7, .int (x8 + (1 : Int32)), gs_J]) rfl ?_
    exact hq42 _ _ _ _ _ _ _ _ _  hD
  · have hD := if_f hD h1
    refine r_iload hK d_X11_cheapest_83 rfl ?_
    refine r_iconst hK d_X11_cheapest_85 ci_m1 ?_
    refine r_icmp_eq (tgt := 99) hK d_X11_cheapest_86 (by decide) (fun h2 => ?_) (fun h2 => ?_)
    · have hD := if_t hD h2
      exact T_X11_cheapest_99 hK hq42  hD
    · have hD := if_f hD h2
      refine r_iload hK d_X11_cheapest_89 rfl ?_
      refine r_iload hK d_X11_cheapest_91 rfl ?_
      refine r_icmp_lt (tgt := 99) hK d_X11_cheapest_93 (by decide) (fun h3 => ?_) (fun h3 => ?_)
      · have hD := if_t hD h3
        exact T_X11_cheapest_99 hK hq42  hD
      · have hD := if_f hD h3
        refine r_goto (tgt := 133) hK d_X11_cheapest_96 (by decide) ?_
        refine r_iinc hK d_X11_cheapest_133 rfl (v := x8 + (1 : Int32)) (by rw [ci_1]) (by decide) (ls2 := [.ref 0, .int x1, .int x2, .int x3, .int x4, .int x5, .int x6, .int x7, .int (x8 + (1 : Int32)), .int xs0]) rfl ?_
        refine r_goto (tgt := 42) hK d_X11_cheapest_136 (by decide) ?_
        refine r_junk [true, true, true, true, true, true, true, true, true, false] (ls2 := [.ref 0, .int x1, .int x2, .int x3, .int x4, .int x5, .int x6, .int x7, .int (x8 + (1 : Int32)), gs_J]) rfl ?_
        exact hq42 _ _ _ _ _ _ _ _ _  hD
set_option maxRecDepth 20000 in
theorem To_X11_cheapest_42  (hK : KC p R s m args meth c ad g tyc RX11 cX11_cheapest 10 (some .int) 7) {r : Int32} {μ2 : gs_M} {q42 : Int32 → Int32 → Int32 → Int32 → Int32 → Int32 → Int32 → Int32 → gs_M → Option (Int32 × gs_M)} (hq42 : ∀ (x1 : Int32) (x2 : Int32) (x3 : Int32) (x4 : Int32) (x5 : Int32) (x6 : Int32) (x7 : Int32) (x8 : Int32) (μ : gs_M), q42 x1 x2 x3 x4 x5 x6 x7 x8 μ = some (r, μ2) → WJ p l e R s m args below meth c 0 0 (MQ below (gs_Q ad g tyc (some (.int r)) μ2) args s 0 0 (gs_A ad)) ad g tyc 10 42 [.ref 0, .int x1, .int x2, .int x3, .int x4, .int x5, .int x6, .int x7, .int x8, gs_J] [] μ) {x1 : Int32} {x2 : Int32} {x3 : Int32} {x4 : Int32} {x5 : Int32} {x6 : Int32} {x7 : Int32} {x8 : Int32} {μ : gs_M}  (hD : Bo_X11_cheapest_42 q42 x1 x2 x3 x4 x5 x6 x7 x8 μ = some (r, μ2)) : WJ p l e R s m args below meth c 0 0 (MQ below (gs_Q ad g tyc (some (.int r)) μ2) args s 0 0 (gs_A ad)) ad g tyc 10 42 [.ref 0, .int x1, .int x2, .int x3, .int x4, .int x5, .int x6, .int x7, .int x8, gs_J] [] μ := by
  unfold Bo_X11_cheapest_42 at hD
  refine r_iload hK d_X11_cheapest_42 rfl ?_
  refine r_aload_n hK d_X11_cheapest_44 rfl rfl ?_
  refine r_getR hK d_X11_cheapest_45 fl_RX11_44_10 rfl kd_0 ?_
  refine r_ref (b := 13) R0_0_5 ?_
  refine r_getI hK d_X11_cheapest_48 fl_RX11_310_8 rfl kd_13 ?_
  refine r_icmp_ge (tgt := 139) hK d_X11_cheapest_51 (by decide) (fun h1 => ?_) (fun h1 => ?_)
  · have hD := if_t hD h1
    refine r_iload hK d_X11_cheapest_139 rfl ?_
    cases hD
    exact r_iret hK d_X11_cheapest_141
  · have hD := if_f hD h1
    refine r_aload_n hK d_X11_cheapest_54 rfl rfl ?_
    refine r_iload_n hK d_X11_cheapest_55 rfl rfl ?_
    refine r_iload hK d_X11_cheapest_56 rfl ?_
    obtain ⟨v4, u3, e2, hD⟩ := bd_e hD
    refine r_callV (As := [.int x1, .int x8]) (st := []) (stk2 := [.int v4]) hK (C_X11_canLoad  e2) d_X11_cheapest_58 mf_X11_canLoad ml_RX11_166 im_X11_canLoad rfl se_10_RX11_X11_canLoad kd_0 rfl (Nat.le_of_ble_eq_true rfl) (by decide) ⟨Nat.zero_le _, Nat.zero_le _⟩ rfl rfl ?_
    refine r_if_eq (tgt := 74) hK d_X11_cheapest_61 (by decide) (fun h5 => ?_) (fun h5 => ?_)
    · have hD := if_t hD h5
      refine r_iconst hK d_X11_cheapest_74 ci_m1 ?_
      exact T_X11_cheapest_75 hK hq42  hD
    · have hD := if_f hD h5
      refine r_aload_n hK d_X11_cheapest_64 rfl rfl ?_
      refine r_iload_n hK d_X11_cheapest_65 rfl rfl ?_
      refine r_iload hK d_X11_cheapest_66 rfl ?_
      obtain ⟨v8, u7, e6, hD⟩ := bd_e hD
      refine r_callV (As := [.int x1, .int x8]) (st := []) (stk2 := [.int v8]) hK (C_X11_cost  e6) d_X11_cheapest_68 mf_X11_cost ml_RX11_311 im_X11_cost rfl se_10_RX11_X11_cost kd_0 rfl (Nat.le_of_ble_eq_true rfl) (by decide) ⟨Nat.zero_le _, Nat.zero_le _⟩ rfl rfl ?_
      refine r_goto (tgt := 75) hK d_X11_cheapest_71 (by decide) ?_
      exact T_X11_cheapest_75 hK hq42  hD
set_option maxRecDepth 20000 in
theorem TL_X11_cheapest_42  (hK : KC p R s m args meth c ad g tyc RX11 cX11_cheapest 10 (some .int) 7) {r : Int32} {μ2 : gs_M}   : ∀ (n : Nat) (x1 : Int32) (x2 : Int32) (x3 : Int32) (x4 : Int32) (x5 : Int32) (x6 : Int32) (x7 : Int32) (x8 : Int32) (μ : gs_M), L_X11_cheapest_42  n x1 x2 x3 x4 x5 x6 x7 x8 μ = some (r, μ2) → WJ p l e R s m args below meth c 0 0 (MQ below (gs_Q ad g tyc (some (.int r)) μ2) args s 0 0 (gs_A ad)) ad g tyc 10 42 [.ref 0, .int x1, .int x2, .int x3, .int x4, .int x5, .int x6, .int x7, .int x8, gs_J] [] μ := by
  intro n
  induction n with
  | zero => intro x1 x2 x3 x4 x5 x6 x7 x8 μ  hD; cases hD
  | succ n ih => intro x1 x2 x3 x4 x5 x6 x7 x8 μ  hD; exact To_X11_cheapest_42 hK  ih  hD
set_option maxRecDepth 20000 in
theorem C_X11_cheapest  {x1 : Int32} {x2 : Int32} {x3 : Int32} {x4 : Int32} {x5 : Int32} {μ : gs_M} {r : Int32} {μ2 : gs_M}  (hD : D_X11_cheapest x1 x2 x3 x4 x5 μ = some (r, μ2)) : CALL yX11_cheapest cX11_cheapest 10 (some .int) 7 [.ref 0, .int x1, .int x2, .int x3, .int x4, .int x5] μ (some (.int r)) μ2 := by
  unfold D_X11_cheapest at hD
  refine gs_enter mf_X11_cheapest (Nat.le_of_ble_eq_true rfl) (ls := [.ref 0, .int x1, .int x2, .int x3, .int x4, .int x5, gs_J, gs_J, gs_J, gs_J]) rfl (fun p l e R s m args below meth c ad g tyc hK => ?_)
  have hK : KC p R s m args meth c ad g tyc RX11 cX11_cheapest 10 (some .int) 7 := hK
  refine r_aload_n hK d_X11_cheapest_0 rfl rfl ?_
  refine r_getR hK d_X11_cheapest_1 fl_RX11_41_10 rfl kd_0 ?_
  refine r_ref (b := 10) R0_0_4 ?_
  refine r_iload_n hK d_X11_cheapest_4 rfl rfl ?_
  obtain ⟨v3, u2, e1, hD⟩ := bd_e hD
  refine r_callV (As := [.int x1]) (st := []) (stk2 := [.int v3]) hK (C_X9_has kd_10 e1) d_X11_cheapest_5 mf_X9_has ml_RX11_143 im_X9_has rfl se_8_RX9_X9_has kd_10 rfl (Nat.le_of_ble_eq_true rfl) (by decide) ⟨Nat.zero_le _, Nat.zero_le _⟩ rfl rfl ?_
  refine r_if_eq (tgt := 31) hK d_X11_cheapest_8 (by decide) (fun h4 => ?_) (fun h4 => ?_)
  · have hD := if_t hD h4
    refine r_iconst hK d_X11_cheapest_31 ci_m1 ?_
    cases hD
    exact r_iret hK d_X11_cheapest_32
  · have hD := if_f hD h4
    refine r_iload_n hK d_X11_cheapest_11 rfl rfl ?_
    refine r_iload_n hK d_X11_cheapest_12 rfl rfl ?_
    refine r_iload hK d_X11_cheapest_13 rfl ?_
    obtain ⟨v7, u6, e5, hD⟩ := bd_e hD
    refine r_callS (As := [.int x2, .int x3, .int x4]) (st := []) (stk2 := [.int v7]) hK (C_X11_isVoyage  e5) d_X11_cheapest_15 mf_X11_isVoyage ml_RX11_304 ss_X11_isVoyage rfl (Nat.le_of_ble_eq_true rfl) (by decide) ⟨Nat.zero_le _, Nat.zero_le _⟩ rfl rfl ?_
    refine r_if_eq (tgt := 31) hK d_X11_cheapest_18 (by decide) (fun h8 => ?_) (fun h8 => ?_)
    · have hD := if_t hD h8
      refine r_iconst hK d_X11_cheapest_31 ci_m1 ?_
      cases hD
      exact r_iret hK d_X11_cheapest_32
    · have hD := if_f hD h8
      refine r_iload hK d_X11_cheapest_21 rfl ?_
      refine r_iconst hK d_X11_cheapest_23 ci_0 ?_
      refine r_iconst hK d_X11_cheapest_24 ci_5 ?_
      obtain ⟨v11, u10, e9, hD⟩ := bd_e hD
      refine r_callS (As := [.int x5, .int (0 : Int32), .int (5 : Int32)]) (st := []) (stk2 := [.int v11]) hK (C_X11_within  e9) d_X11_cheapest_25 mf_X11_within ml_RX11_123 ss_X11_within rfl (Nat.le_of_ble_eq_true rfl) (by decide) ⟨Nat.zero_le _, Nat.zero_le _⟩ rfl rfl ?_
      refine r_if_ne (tgt := 33) hK d_X11_cheapest_28 (by decide) (fun h12 => ?_) (fun h12 => ?_)
      · have hD := if_f hD h12
        refine r_iconst hK d_X11_cheapest_33 ci_m1 ?_
        refine r_istore hK d_X11_cheapest_34 (by decide) (ls2 := [.ref 0, .int x1, .int x2, .int x3, .int x4, .int x5, .int (-1 : Int32), gs_J, gs_J, gs_J]) rfl ?_
        refine r_iconst hK d_X11_cheapest_36 ci_0 ?_
        refine r_istore hK d_X11_cheapest_37 (by decide) (ls2 := [.ref 0, .int x1, .int x2, .int x3, .int x4, .int x5, .int (-1 : Int32), .int (0 : Int32), gs_J, gs_J]) rfl ?_
        refine r_iconst hK d_X11_cheapest_39 ci_0 ?_
        refine r_istore hK d_X11_cheapest_40 (by decide) (ls2 := [.ref 0, .int x1, .int x2, .int x3, .int x4, .int x5, .int (-1 : Int32), .int (0 : Int32), .int (0 : Int32), gs_J]) rfl ?_
        exact TL_X11_cheapest_42 hK  _ _ _ _ _ _ _ _ _ _  hD
      · have hD := if_t hD h12
        refine r_iconst hK d_X11_cheapest_31 ci_m1 ?_
        cases hD
        exact r_iret hK d_X11_cheapest_32
end S_X11_cheapest
theorem d_X11_fitted_0 : gd cX11_fitted 0 (.aload_n 0) 1 1 := ⟨by decide +kernel, rfl⟩
theorem d_X11_fitted_1 : gd cX11_fitted 1 (.iload_n 1) 1 2 := ⟨by decide +kernel, rfl⟩
theorem d_X11_fitted_2 : gd cX11_fitted 2 (.iload_n 2) 1 3 := ⟨by decide +kernel, rfl⟩
theorem d_X11_fitted_3 : gd cX11_fitted 3 (.invokevirtual 166) 3 6 := ⟨by decide +kernel, rfl⟩
theorem d_X11_fitted_6 : gd cX11_fitted 6 (.ifCond .eq 43) 3 9 := ⟨by decide +kernel, rfl⟩
theorem d_X11_fitted_9 : gd cX11_fitted 9 (.iload_n 3) 1 10 := ⟨by decide +kernel, rfl⟩
theorem d_X11_fitted_10 : gd cX11_fitted 10 (.iconst 0) 1 11 := ⟨by decide +kernel, rfl⟩
theorem d_X11_fitted_11 : gd cX11_fitted 11 (.aload_n 0) 1 12 := ⟨by decide +kernel, rfl⟩
theorem d_X11_fitted_12 : gd cX11_fitted 12 (.getfield 41) 3 15 := ⟨by decide +kernel, rfl⟩
theorem d_X11_fitted_15 : gd cX11_fitted 15 (.iload_n 1) 1 16 := ⟨by decide +kernel, rfl⟩
theorem d_X11_fitted_16 : gd cX11_fitted 16 (.invokevirtual 154) 3 19 := ⟨by decide +kernel, rfl⟩
theorem d_X11_fitted_19 : gd cX11_fitted 19 (.iconst 1) 1 20 := ⟨by decide +kernel, rfl⟩
theorem d_X11_fitted_20 : gd cX11_fitted 20 .isub 1 21 := ⟨by decide +kernel, rfl⟩
theorem d_X11_fitted_21 : gd cX11_fitted 21 (.invokestatic 123) 3 24 := ⟨by decide +kernel, rfl⟩
theorem d_X11_fitted_24 : gd cX11_fitted 24 (.ifCond .eq 25) 3 27 := ⟨by decide +kernel, rfl⟩
theorem d_X11_fitted_27 : gd cX11_fitted 27 (.iload 4) 2 29 := ⟨by decide +kernel, rfl⟩
theorem d_X11_fitted_29 : gd cX11_fitted 29 (.iload 5) 2 31 := ⟨by decide +kernel, rfl⟩
theorem d_X11_fitted_31 : gd cX11_fitted 31 (.iload 6) 2 33 := ⟨by decide +kernel, rfl⟩
theorem d_X11_fitted_33 : gd cX11_fitted 33 (.invokestatic 304) 3 36 := ⟨by decide +kernel, rfl⟩
theorem d_X11_fitted_36 : gd cX11_fitted 36 (.ifCond .eq 13) 3 39 := ⟨by decide +kernel, rfl⟩
theorem d_X11_fitted_39 : gd cX11_fitted 39 (.iload 7) 2 41 := ⟨by decide +kernel, rfl⟩
theorem d_X11_fitted_41 : gd cX11_fitted 41 (.iconst 0) 1 42 := ⟨by decide +kernel, rfl⟩
theorem d_X11_fitted_42 : gd cX11_fitted 42 (.iconst 1) 1 43 := ⟨by decide +kernel, rfl⟩
theorem d_X11_fitted_43 : gd cX11_fitted 43 (.invokestatic 123) 3 46 := ⟨by decide +kernel, rfl⟩
theorem d_X11_fitted_46 : gd cX11_fitted 46 (.ifCond .ne 5) 3 49 := ⟨by decide +kernel, rfl⟩
theorem d_X11_fitted_49 : gd cX11_fitted 49 (.iconst (-1)) 1 50 := ⟨by decide +kernel, rfl⟩
theorem d_X11_fitted_50 : gd cX11_fitted 50 .ireturn 1 51 := ⟨by decide +kernel, rfl⟩
theorem d_X11_fitted_51 : gd cX11_fitted 51 (.aload_n 0) 1 52 := ⟨by decide +kernel, rfl⟩
theorem d_X11_fitted_52 : gd cX11_fitted 52 (.aload_n 0) 1 53 := ⟨by decide +kernel, rfl⟩
theorem d_X11_fitted_53 : gd cX11_fitted 53 (.getfield 73) 3 56 := ⟨by decide +kernel, rfl⟩
theorem d_X11_fitted_56 : gd cX11_fitted 56 (.iload_n 1) 1 57 := ⟨by decide +kernel, rfl⟩
theorem d_X11_fitted_57 : gd cX11_fitted 57 (.iload_n 2) 1 58 := ⟨by decide +kernel, rfl⟩
theorem d_X11_fitted_58 : gd cX11_fitted 58 (.invokevirtual 170) 3 61 := ⟨by decide +kernel, rfl⟩
theorem d_X11_fitted_61 : gd cX11_fitted 61 (.aload_n 0) 1 62 := ⟨by decide +kernel, rfl⟩
theorem d_X11_fitted_62 : gd cX11_fitted 62 (.getfield 73) 3 65 := ⟨by decide +kernel, rfl⟩
theorem d_X11_fitted_65 : gd cX11_fitted 65 (.getfield 182) 3 68 := ⟨by decide +kernel, rfl⟩
theorem d_X11_fitted_68 : gd cX11_fitted 68 (.iload_n 3) 1 69 := ⟨by decide +kernel, rfl⟩
theorem d_X11_fitted_69 : gd cX11_fitted 69 .aaload 1 70 := ⟨by decide +kernel, rfl⟩
theorem d_X11_fitted_70 : gd cX11_fitted 70 (.astore 8) 2 72 := ⟨by decide +kernel, rfl⟩
theorem d_X11_fitted_72 : gd cX11_fitted 72 (.aload_n 0) 1 73 := ⟨by decide +kernel, rfl⟩
theorem d_X11_fitted_73 : gd cX11_fitted 73 (.iload_n 1) 1 74 := ⟨by decide +kernel, rfl⟩
theorem d_X11_fitted_74 : gd cX11_fitted 74 (.iload_n 2) 1 75 := ⟨by decide +kernel, rfl⟩
theorem d_X11_fitted_75 : gd cX11_fitted 75 (.invokevirtual 311) 3 78 := ⟨by decide +kernel, rfl⟩
theorem d_X11_fitted_78 : gd cX11_fitted 78 (.aload_n 0) 1 79 := ⟨by decide +kernel, rfl⟩
theorem d_X11_fitted_79 : gd cX11_fitted 79 (.iload_n 1) 1 80 := ⟨by decide +kernel, rfl⟩
theorem d_X11_fitted_80 : gd cX11_fitted 80 (.iload_n 3) 1 81 := ⟨by decide +kernel, rfl⟩
theorem d_X11_fitted_81 : gd cX11_fitted 81 (.aload 8) 2 83 := ⟨by decide +kernel, rfl⟩
theorem d_X11_fitted_83 : gd cX11_fitted 83 (.getfield 196) 3 86 := ⟨by decide +kernel, rfl⟩
theorem d_X11_fitted_86 : gd cX11_fitted 86 (.aload 8) 2 88 := ⟨by decide +kernel, rfl⟩
theorem d_X11_fitted_88 : gd cX11_fitted 88 (.getfield 199) 3 91 := ⟨by decide +kernel, rfl⟩
theorem d_X11_fitted_91 : gd cX11_fitted 91 (.invokevirtual 300) 3 94 := ⟨by decide +kernel, rfl⟩
theorem d_X11_fitted_94 : gd cX11_fitted 94 .isub 1 95 := ⟨by decide +kernel, rfl⟩
theorem d_X11_fitted_95 : gd cX11_fitted 95 (.istore 9) 2 97 := ⟨by decide +kernel, rfl⟩
theorem d_X11_fitted_97 : gd cX11_fitted 97 (.iconst (-1)) 1 98 := ⟨by decide +kernel, rfl⟩
theorem d_X11_fitted_98 : gd cX11_fitted 98 (.istore 10) 2 100 := ⟨by decide +kernel, rfl⟩
theorem d_X11_fitted_100 : gd cX11_fitted 100 (.iconst 0) 1 101 := ⟨by decide +kernel, rfl⟩
theorem d_X11_fitted_101 : gd cX11_fitted 101 (.istore 11) 2 103 := ⟨by decide +kernel, rfl⟩
theorem d_X11_fitted_103 : gd cX11_fitted 103 (.iconst 0) 1 104 := ⟨by decide +kernel, rfl⟩
theorem d_X11_fitted_104 : gd cX11_fitted 104 (.istore 12) 2 106 := ⟨by decide +kernel, rfl⟩
theorem d_X11_fitted_106 : gd cX11_fitted 106 (.iload 12) 2 108 := ⟨by decide +kernel, rfl⟩
theorem d_X11_fitted_108 : gd cX11_fitted 108 (.iconst 3) 1 109 := ⟨by decide +kernel, rfl⟩
theorem d_X11_fitted_109 : gd cX11_fitted 109 (.if_icmp .gt 132) 3 112 := ⟨by decide +kernel, rfl⟩
theorem d_X11_fitted_112 : gd cX11_fitted 112 (.iconst 0) 1 113 := ⟨by decide +kernel, rfl⟩
theorem d_X11_fitted_113 : gd cX11_fitted 113 (.istore 13) 2 115 := ⟨by decide +kernel, rfl⟩
theorem d_X11_fitted_115 : gd cX11_fitted 115 (.iload 13) 2 117 := ⟨by decide +kernel, rfl⟩
theorem d_X11_fitted_117 : gd cX11_fitted 117 (.bipush 40) 2 119 := ⟨by decide +kernel, rfl⟩
theorem d_X11_fitted_119 : gd cX11_fitted 119 (.if_icmp .gt 116) 3 122 := ⟨by decide +kernel, rfl⟩
theorem d_X11_fitted_122 : gd cX11_fitted 122 (.iload 9) 2 124 := ⟨by decide +kernel, rfl⟩
theorem d_X11_fitted_124 : gd cX11_fitted 124 (.aload_n 0) 1 125 := ⟨by decide +kernel, rfl⟩
theorem d_X11_fitted_125 : gd cX11_fitted 125 (.iload_n 1) 1 126 := ⟨by decide +kernel, rfl⟩
theorem d_X11_fitted_126 : gd cX11_fitted 126 (.iload_n 3) 1 127 := ⟨by decide +kernel, rfl⟩
theorem d_X11_fitted_127 : gd cX11_fitted 127 (.iload 13) 2 129 := ⟨by decide +kernel, rfl⟩
theorem d_X11_fitted_129 : gd cX11_fitted 129 (.iload 12) 2 131 := ⟨by decide +kernel, rfl⟩
theorem d_X11_fitted_131 : gd cX11_fitted 131 (.invokevirtual 300) 3 134 := ⟨by decide +kernel, rfl⟩
theorem d_X11_fitted_134 : gd cX11_fitted 134 .iadd 1 135 := ⟨by decide +kernel, rfl⟩
theorem d_X11_fitted_135 : gd cX11_fitted 135 (.istore 14) 2 137 := ⟨by decide +kernel, rfl⟩
theorem d_X11_fitted_137 : gd cX11_fitted 137 (.iload 10) 2 139 := ⟨by decide +kernel, rfl⟩
theorem d_X11_fitted_139 : gd cX11_fitted 139 (.iconst (-1)) 1 140 := ⟨by decide +kernel, rfl⟩
theorem d_X11_fitted_140 : gd cX11_fitted 140 (.if_icmp .eq 13) 3 143 := ⟨by decide +kernel, rfl⟩
theorem d_X11_fitted_143 : gd cX11_fitted 143 (.iload 14) 2 145 := ⟨by decide +kernel, rfl⟩
theorem d_X11_fitted_145 : gd cX11_fitted 145 (.iload 11) 2 147 := ⟨by decide +kernel, rfl⟩
theorem d_X11_fitted_147 : gd cX11_fitted 147 (.if_icmp .lt 6) 3 150 := ⟨by decide +kernel, rfl⟩
theorem d_X11_fitted_150 : gd cX11_fitted 150 (.goto 79) 3 153 := ⟨by decide +kernel, rfl⟩
theorem d_X11_fitted_153 : gd cX11_fitted 153 (.aload 8) 2 155 := ⟨by decide +kernel, rfl⟩
theorem d_X11_fitted_155 : gd cX11_fitted 155 (.iload 13) 2 157 := ⟨by decide +kernel, rfl⟩
theorem d_X11_fitted_157 : gd cX11_fitted 157 (.putfield 196) 3 160 := ⟨by decide +kernel, rfl⟩
theorem d_X11_fitted_160 : gd cX11_fitted 160 (.aload 8) 2 162 := ⟨by decide +kernel, rfl⟩
theorem d_X11_fitted_162 : gd cX11_fitted 162 (.iload 12) 2 164 := ⟨by decide +kernel, rfl⟩
theorem d_X11_fitted_164 : gd cX11_fitted 164 (.putfield 199) 3 167 := ⟨by decide +kernel, rfl⟩
theorem d_X11_fitted_167 : gd cX11_fitted 167 (.aload 8) 2 169 := ⟨by decide +kernel, rfl⟩
theorem d_X11_fitted_169 : gd cX11_fitted 169 (.aload_n 0) 1 170 := ⟨by decide +kernel, rfl⟩
theorem d_X11_fitted_170 : gd cX11_fitted 170 (.getfield 44) 3 173 := ⟨by decide +kernel, rfl⟩
theorem d_X11_fitted_173 : gd cX11_fitted 173 (.iload_n 2) 1 174 := ⟨by decide +kernel, rfl⟩
theorem d_X11_fitted_174 : gd cX11_fitted 174 (.iload_n 3) 1 175 := ⟨by decide +kernel, rfl⟩
theorem d_X11_fitted_175 : gd cX11_fitted 175 (.iconst 1) 1 176 := ⟨by decide +kernel, rfl⟩
theorem d_X11_fitted_176 : gd cX11_fitted 176 (.invokevirtual 150) 3 179 := ⟨by decide +kernel, rfl⟩
theorem d_X11_fitted_179 : gd cX11_fitted 179 (.aload_n 0) 1 180 := ⟨by decide +kernel, rfl⟩
theorem d_X11_fitted_180 : gd cX11_fitted 180 (.getfield 44) 3 183 := ⟨by decide +kernel, rfl⟩
theorem d_X11_fitted_183 : gd cX11_fitted 183 (.iload_n 2) 1 184 := ⟨by decide +kernel, rfl⟩
theorem d_X11_fitted_184 : gd cX11_fitted 184 (.iload_n 3) 1 185 := ⟨by decide +kernel, rfl⟩
theorem d_X11_fitted_185 : gd cX11_fitted 185 (.iconst 2) 1 186 := ⟨by decide +kernel, rfl⟩
theorem d_X11_fitted_186 : gd cX11_fitted 186 (.invokevirtual 150) 3 189 := ⟨by decide +kernel, rfl⟩
theorem d_X11_fitted_189 : gd cX11_fitted 189 (.iconst 1) 1 190 := ⟨by decide +kernel, rfl⟩
theorem d_X11_fitted_190 : gd cX11_fitted 190 (.if_icmp .ne 7) 3 193 := ⟨by decide +kernel, rfl⟩
theorem d_X11_fitted_193 : gd cX11_fitted 193 (.iconst 1) 1 194 := ⟨by decide +kernel, rfl⟩
theorem d_X11_fitted_194 : gd cX11_fitted 194 (.goto 4) 3 197 := ⟨by decide +kernel, rfl⟩
theorem d_X11_fitted_197 : gd cX11_fitted 197 (.iconst 0) 1 198 := ⟨by decide +kernel, rfl⟩
theorem d_X11_fitted_198 : gd cX11_fitted 198 (.invokevirtual 202) 3 201 := ⟨by decide +kernel, rfl⟩
theorem d_X11_fitted_201 : gd cX11_fitted 201 (.aload_n 0) 1 202 := ⟨by decide +kernel, rfl⟩
theorem d_X11_fitted_202 : gd cX11_fitted 202 (.iload 4) 2 204 := ⟨by decide +kernel, rfl⟩
theorem d_X11_fitted_204 : gd cX11_fitted 204 (.iload 5) 2 206 := ⟨by decide +kernel, rfl⟩
theorem d_X11_fitted_206 : gd cX11_fitted 206 (.iload 6) 2 208 := ⟨by decide +kernel, rfl⟩
theorem d_X11_fitted_208 : gd cX11_fitted 208 (.iconst 0) 1 209 := ⟨by decide +kernel, rfl⟩
theorem d_X11_fitted_209 : gd cX11_fitted 209 (.invokevirtual 307) 3 212 := ⟨by decide +kernel, rfl⟩
theorem d_X11_fitted_212 : gd cX11_fitted 212 (.ifCond .ne 17) 3 215 := ⟨by decide +kernel, rfl⟩
theorem d_X11_fitted_215 : gd cX11_fitted 215 (.bipush 41) 2 217 := ⟨by decide +kernel, rfl⟩
theorem d_X11_fitted_217 : gd cX11_fitted 217 (.iload 12) 2 219 := ⟨by decide +kernel, rfl⟩
theorem d_X11_fitted_219 : gd cX11_fitted 219 .imul 1 220 := ⟨by decide +kernel, rfl⟩
theorem d_X11_fitted_220 : gd cX11_fitted 220 (.iload 13) 2 222 := ⟨by decide +kernel, rfl⟩
theorem d_X11_fitted_222 : gd cX11_fitted 222 .iadd 1 223 := ⟨by decide +kernel, rfl⟩
theorem d_X11_fitted_223 : gd cX11_fitted 223 (.istore 10) 2 225 := ⟨by decide +kernel, rfl⟩
theorem d_X11_fitted_225 : gd cX11_fitted 225 (.iload 14) 2 227 := ⟨by decide +kernel, rfl⟩
theorem d_X11_fitted_227 : gd cX11_fitted 227 (.istore 11) 2 229 := ⟨by decide +kernel, rfl⟩
theorem d_X11_fitted_229 : gd cX11_fitted 229 (.iinc 13 5) 3 232 := ⟨by decide +kernel, rfl⟩
theorem d_X11_fitted_232 : gd cX11_fitted 232 (.goto (-117)) 3 235 := ⟨by decide +kernel, rfl⟩
theorem d_X11_fitted_235 : gd cX11_fitted 235 (.iinc 12 1) 3 238 := ⟨by decide +kernel, rfl⟩
theorem d_X11_fitted_238 : gd cX11_fitted 238 (.goto (-132)) 3 241 := ⟨by decide +kernel, rfl⟩
theorem d_X11_fitted_241 : gd cX11_fitted 241 (.iload 7) 2 243 := ⟨by decide +kernel, rfl⟩
theorem d_X11_fitted_243 : gd cX11_fitted 243 (.ifCond .eq 9) 3 246 := ⟨by decide +kernel, rfl⟩
theorem d_X11_fitted_246 : gd cX11_fitted 246 (.iload 10) 2 248 := ⟨by decide +kernel, rfl⟩
theorem d_X11_fitted_248 : gd cX11_fitted 248 (.iconst (-1)) 1 249 := ⟨by decide +kernel, rfl⟩
theorem d_X11_fitted_249 : gd cX11_fitted 249 (.if_icmp .ne 8) 3 252 := ⟨by decide +kernel, rfl⟩
theorem d_X11_fitted_252 : gd cX11_fitted 252 (.iload 10) 2 254 := ⟨by decide +kernel, rfl⟩
theorem d_X11_fitted_254 : gd cX11_fitted 254 (.goto 5) 3 257 := ⟨by decide +kernel, rfl⟩
theorem d_X11_fitted_257 : gd cX11_fitted 257 (.iload 11) 2 259 := ⟨by decide +kernel, rfl⟩
theorem d_X11_fitted_259 : gd cX11_fitted 259 .ireturn 1 260 := ⟨by decide +kernel, rfl⟩
def B_X11_fitted_198 (q106 : Int32 → Int32 → Int32 → Int32 → Int32 → Int32 → Int32 → Nat → Int32 → Int32 → Int32 → Int32 → gs_M → Option (Int32 × gs_M)) (q115 : Int32 → Int32 → Int32 → Int32 → Int32 → Int32 → Int32 → Nat → Int32 → Int32 → Int32 → Int32 → Int32 → gs_M → Option (Int32 × gs_M)) (x1 : Int32) (x2 : Int32) (x3 : Int32) (x4 : Int32) (x5 : Int32) (x6 : Int32) (x7 : Int32) (a8 : Nat) (x9 : Int32) (x10 : Int32) (x11 : Int32) (x12 : Int32) (x13 : Int32) (x14 : Int32) (as0 : Nat) (xs1 : Int32) (xs2 : Int32) (μ : gs_M) : Option (Int32 × gs_M) :=
  bd0 (D_X1_fill as0 xs1 xs2 μ) (fun u2 => bd (D_X11_lostOf x4 x5 x6 (0 : Int32) u2) (fun v5 u4 => if v5 = 0 then (lt1 (((41 : Int32) * x12) + x13) (fun v7 => q115 x1 x2 x3 x4 x5 x6 x7 a8 x9 v7 x14 x12 (x13 + (5 : Int32)) u4)) else (q115 x1 x2 x3 x4 x5 x6 x7 a8 x9 x10 x11 x12 (x13 + (5 : Int32)) u4)))
def B_X11_fitted_153 (q106 : Int32 → Int32 → Int32 → Int32 → Int32 → Int32 → Int32 → Nat → Int32 → Int32 → Int32 → Int32 → gs_M → Option (Int32 × gs_M)) (q115 : Int32 → Int32 → Int32 → Int32 → Int32 → Int32 → Int32 → Nat → Int32 → Int32 → Int32 → Int32 → Int32 → gs_M → Option (Int32 × gs_M)) (x1 : Int32) (x2 : Int32) (x3 : Int32) (x4 : Int32) (x5 : Int32) (x6 : Int32) (x7 : Int32) (a8 : Nat) (x9 : Int32) (x10 : Int32) (x11 : Int32) (x12 : Int32) (x13 : Int32) (x14 : Int32) (μ : gs_M) : Option (Int32 × gs_M) :=
  lt1 (sI μ a8 2 x13) (fun u1 => lt1 (sI u1 a8 3 x12) (fun u2 => bd (D_X9_number 13 x2 x3 (1 : Int32) u2) (fun v5 u4 => bd (D_X9_number 13 x2 x3 (2 : Int32) u4) (fun v8 u7 => if v8 = (1 : Int32) then (B_X11_fitted_198 q106 q115 x1 x2 x3 x4 x5 x6 x7 a8 x9 x10 x11 x12 x13 x14 a8 v5 (1 : Int32) u7) else (B_X11_fitted_198 q106 q115 x1 x2 x3 x4 x5 x6 x7 a8 x9 x10 x11 x12 x13 x14 a8 v5 (0 : Int32) u7)))))
def Bo_X11_fitted_115 (q106 : Int32 → Int32 → Int32 → Int32 → Int32 → Int32 → Int32 → Nat → Int32 → Int32 → Int32 → Int32 → gs_M → Option (Int32 × gs_M)) (q115 : Int32 → Int32 → Int32 → Int32 → Int32 → Int32 → Int32 → Nat → Int32 → Int32 → Int32 → Int32 → Int32 → gs_M → Option (Int32 × gs_M)) (x1 : Int32) (x2 : Int32) (x3 : Int32) (x4 : Int32) (x5 : Int32) (x6 : Int32) (x7 : Int32) (a8 : Nat) (x9 : Int32) (x10 : Int32) (x11 : Int32) (x12 : Int32) (x13 : Int32) (μ : gs_M) : Option (Int32 × gs_M) :=
  if (40 : Int32) < x13 then (q106 x1 x2 x3 x4 x5 x6 x7 a8 x9 x10 x11 (x12 + (1 : Int32)) μ) else (bd (D_X11_fittingCost x1 x3 x13 x12 μ) (fun v4 u3 => lt1 (x9 + v4) (fun v5 => if x10 = (-1 : Int32) then (B_X11_fitted_153 q106 q115 x1 x2 x3 x4 x5 x6 x7 a8 x9 x10 x11 x12 x13 v5 u3) else (if v5 < x11 then (B_X11_fitted_153 q106 q115 x1 x2 x3 x4 x5 x6 x7 a8 x9 x10 x11 x12 x13 v5 u3) else (q115 x1 x2 x3 x4 x5 x6 x7 a8 x9 x10 x11 x12 (x13 + (5 : Int32)) u3)))))
def L_X11_fitted_115 (q106 : Int32 → Int32 → Int32 → Int32 → Int32 → Int32 → Int32 → Nat → Int32 → Int32 → Int32 → Int32 → gs_M → Option (Int32 × gs_M)) : Nat → Int32 → Int32 → Int32 → Int32 → Int32 → Int32 → Int32 → Nat → Int32 → Int32 → Int32 → Int32 → Int32 → gs_M → Option (Int32 × gs_M)
  | 0 => fun _ _ _ _ _ _ _ _ _ _ _ _ _ _ => none
  | n + 1 => fun x1 x2 x3 x4 x5 x6 x7 a8 x9 x10 x11 x12 x13 μ => Bo_X11_fitted_115 q106 (L_X11_fitted_115 q106 n) x1 x2 x3 x4 x5 x6 x7 a8 x9 x10 x11 x12 x13 μ
def Bo_X11_fitted_106 (q106 : Int32 → Int32 → Int32 → Int32 → Int32 → Int32 → Int32 → Nat → Int32 → Int32 → Int32 → Int32 → gs_M → Option (Int32 × gs_M)) (x1 : Int32) (x2 : Int32) (x3 : Int32) (x4 : Int32) (x5 : Int32) (x6 : Int32) (x7 : Int32) (a8 : Nat) (x9 : Int32) (x10 : Int32) (x11 : Int32) (x12 : Int32) (μ : gs_M) : Option (Int32 × gs_M) :=
  if (3 : Int32) < x12 then (if x7 = 0 then (some (x10, μ)) else (if x10 = (-1 : Int32) then (some (x10, μ)) else (some (x11, μ)))) else (L_X11_fitted_115 q106 4096 x1 x2 x3 x4 x5 x6 x7 a8 x9 x10 x11 x12 (0 : Int32) μ)
def L_X11_fitted_106  : Nat → Int32 → Int32 → Int32 → Int32 → Int32 → Int32 → Int32 → Nat → Int32 → Int32 → Int32 → Int32 → gs_M → Option (Int32 × gs_M)
  | 0 => fun _ _ _ _ _ _ _ _ _ _ _ _ _ => none
  | n + 1 => fun x1 x2 x3 x4 x5 x6 x7 a8 x9 x10 x11 x12 μ => Bo_X11_fitted_106  (L_X11_fitted_106  n) x1 x2 x3 x4 x5 x6 x7 a8 x9 x10 x11 x12 μ
def D_X11_fitted (x1 : Int32) (x2 : Int32) (x3 : Int32) (x4 : Int32) (x5 : Int32) (x6 : Int32) (x7 : Int32) (μ : gs_M) : Option (Int32 × gs_M) :=
  bd (D_X11_canLoad x1 x2 μ) (fun v3 u2 => if v3 = 0 then (some ((-1 : Int32), u2)) else (bd (D_X9_rowsOf 10 x1 u2) (fun v7 u6 => bd (D_X11_within x3 (0 : Int32) (v7 - (1 : Int32)) u6) (fun v10 u9 => if v10 = 0 then (some ((-1 : Int32), u9)) else (bd (D_X11_isVoyage x4 x5 x6 u9) (fun v14 u13 => if v14 = 0 then (some ((-1 : Int32), u13)) else (bd (D_X11_within x7 (0 : Int32) (1 : Int32) u13) (fun v18 u17 => if v18 = 0 then (some ((-1 : Int32), u17)) else (bd0 (D_X11_lay 46 x1 x2 u17) (fun u21 => ck (inb x3 4) (bd (D_X11_cost x1 x2 u21) (fun v25 u24 => bd (D_X11_fittingCost x1 x3 (gI u24 (46 + 2 + 2 * Int32.toNatClampNeg x3) 2) (gI u24 (46 + 2 + 2 * Int32.toNatClampNeg x3) 3) u24) (fun v28 u27 => lt1 (v25 - v28) (fun v29 => L_X11_fitted_106 4096 x1 x2 x3 x4 x5 x6 x7 (46 + 2 + 2 * Int32.toNatClampNeg x3) v29 (-1 : Int32) (0 : Int32) (0 : Int32) u27))))))))))))))
section S_X11_fitted
variable {p : Program} {l : Launch} {e : Env} {R : Room} {s : State} {m : MethodId} {args : Array Value} {below : List Frame} {meth : Method} {c : Code} {ad : Nat → Nat} {g : va_G} {tyc : Nat → ClassId}
set_option maxRecDepth 20000 in
theorem T_X11_fitted_198  (hK : KC p R s m args meth c ad g tyc RX11 cX11_fitted 15 (some .int) 7) {r : Int32} {μ2 : gs_M} {q106 : Int32 → Int32 → Int32 → Int32 → Int32 → Int32 → Int32 → Nat → Int32 → Int32 → Int32 → Int32 → gs_M → Option (Int32 × gs_M)} {q115 : Int32 → Int32 → Int32 → Int32 → Int32 → Int32 → Int32 → Nat → Int32 → Int32 → Int32 → Int32 → Int32 → gs_M → Option (Int32 × gs_M)} (hq106 : ∀ (x1 : Int32) (x2 : Int32) (x3 : Int32) (x4 : Int32) (x5 : Int32) (x6 : Int32) (x7 : Int32) (a8 : Nat) (x9 : Int32) (x10 : Int32) (x11 : Int32) (x12 : Int32) (μ : gs_M), kd a8 = 1 → q106 x1 x2 x3 x4 x5 x6 x7 a8 x9 x10 x11 x12 μ = some (r, μ2) → WJ p l e R s m args below meth c 0 0 (MQ below (gs_Q ad g tyc (some (.int r)) μ2) args s 0 0 (gs_A ad)) ad g tyc 15 106 [.ref 0, .int x1, .int x2, .int x3, .int x4, .int x5, .int x6, .int x7, .ref a8, .int x9, .int x10, .int x11, .int x12, gs_J, gs_J] [] μ) (hq115 : ∀ (x1 : Int32) (x2 : Int32) (x3 : Int32) (x4 : Int32) (x5 : Int32) (x6 : Int32) (x7 : Int32) (a8 : Nat) (x9 : Int32) (x10 : Int32) (x11 : Int32) (x12 : Int32) (x13 : Int32) (μ : gs_M), kd a8 = 1 → q115 x1 x2 x3 x4 x5 x6 x7 a8 x9 x10 x11 x12 x13 μ = some (r, μ2) → WJ p l e R s m args below meth c 0 0 (MQ below (gs_Q ad g tyc (some (.int r)) μ2) args s 0 0 (gs_A ad)) ad g tyc 15 115 [.ref 0, .int x1, .int x2, .int x3, .int x4, .int x5, .int x6, .int x7, .ref a8, .int x9, .int x10, .int x11, .int x12, .int x13, gs_J] [] μ) {x1 : Int32} {x2 : Int32} {x3 : Int32} {x4 : Int32} {x5 : Int32} {x6 : Int32} {x7 : Int32} {a8 : Nat} {x9 : Int32} {x10 : Int32} {x11 : Int32} {x12 : Int32} {x13 : Int32} {x14 : Int32} {as0 : Nat} {xs1 : Int32} {xs2 : Int32} {μ : gs_M} (hk8 : kd a8 = 1) (hks0 : kd as0 = 1) (hD : B_X11_fitted_198 q106 q115 x1 x2 x3 x4 x5 x6 x7 a8 x9 x10 x11 x12 x13 x14 as0 xs1 xs2 μ = some (r, μ2)) : WJ p l e R s m args below meth c 0 0 (MQ below (gs_Q ad g tyc (some (.int r)) μ2) args s 0 0 (gs_A ad)) ad g tyc 15 198 [.ref 0, .int x1, .int x2, .int x3, .int x4, .int x5, .int x6, .int x7, .ref a8, .int x9, .int x10, .int x11, .int x12, .int x13, .int x14] [.int xs2, .int xs1, .ref as0] μ := by
  unfold B_X11_fitted_198 at hD
  obtain ⟨u2, e1, hD⟩ := bd0_e hD
  refine r_callV (As := [.int xs1, .int xs2]) (st := []) (stk2 := []) hK (C_X1_fill hks0 e1) d_X11_fitted_198 mf_X1_fill ml_RX11_202 im_X1_fill rfl se_1_RX1_X1_fill hks0 rfl (Nat.le_of_ble_eq_true rfl) (by decide) ⟨Nat.zero_le _, Nat.zero_le _⟩ rfl rfl ?_
  refine r_aload_n hK d_X11_fitted_201 rfl rfl ?_
  refine r_iload hK d_X11_fitted_202 rfl ?_
  refine r_iload hK d_X11_fitted_204 rfl ?_
  refine r_iload hK d_X11_fitted_206 rfl ?_
  refine r_iconst hK d_X11_fitted_208 ci_0 ?_
  obtain ⟨v5, u4, e3, hD⟩ := bd_e hD
  refine r_callV (As := [.int x4, .int x5, .int x6, .int (0 : Int32)]) (st := []) (stk2 := [.int v5]) hK (C_X11_lostOf  e3) d_X11_fitted_209 mf_X11_lostOf ml_RX11_307 im_X11_lostOf rfl se_10_RX11_X11_lostOf kd_0 rfl (Nat.le_of_ble_eq_true rfl) (by decide) ⟨Nat.zero_le _, Nat.zero_le _⟩ rfl rfl ?_
  refine r_if_ne (tgt := 229) hK d_X11_fitted_212 (by decide) (fun h6 => ?_) (fun h6 => ?_)
  · have hD := if_f hD h6
    refine r_iinc hK d_X11_fitted_229 rfl (v := x13 + (5 : Int32)) (by rw [ci_5]) (by decide) (ls2 := [.ref 0, .int x1, .int x2, .int x3, .int x4, .int x5, .int x6, .int x7, .ref a8, .int x9, .int x10, .int x11, .int x12, .int (x13 + (5 : Int32)), .int x14]) rfl ?_
    refine r_goto (tgt := 115) hK d_X11_fitted_232 (by decide) ?_
    refine r_junk [true, true, true, true, true, true, true, true, true, true, true, true, true, true, false] (ls2 := [.ref 0, .int x1, .int x2, .int x3, .int x4, .int x5, .int x6, .int x7, .ref a8, .int x9, .int x10, .int x11, .int x12, .int (x13 + (5 : Int32)), gs_J]) rfl ?_
    exact hq115 _ _ _ _ _ _ _ _ _ _ _ _ _ _ hk8 hD
  · have hD := if_t hD h6
    refine r_bipush hK d_X11_fitted_215 cb_41 ?_
    refine r_iload hK d_X11_fitted_217 rfl ?_
    refine r_imul hK d_X11_fitted_219 ?_
    refine r_iload hK d_X11_fitted_220 rfl ?_
    refine r_iadd hK d_X11_fitted_222 ?_
    refine r_lti hD (fun v7 hD => ?_)
    refine r_istore hK d_X11_fitted_223 (by decide) (ls2 := [.ref 0, .int x1, .int x2, .int x3, .int x4, .int x5, .int x6, .int x7, .ref a8, .int x9, .int v7, .int x11, .int x12, .int x13, .int x14]) rfl ?_
    refine r_iload hK d_X11_fitted_225 rfl ?_
    refine r_istore hK d_X11_fitted_227 (by decide) (ls2 := [.ref 0, .int x1, .int x2, .int x3, .int x4, .int x5, .int x6, .int x7, .ref a8, .int x9, .int v7, .int x14, .int x12, .int x13, .int x14]) rfl ?_
    refine r_iinc hK d_X11_fitted_229 rfl (v := x13 + (5 : Int32)) (by rw [ci_5]) (by decide) (ls2 := [.ref 0, .int x1, .int x2, .int x3, .int x4, .int x5, .int x6, .int x7, .ref a8, .int x9, .int v7, .int x14, .int x12, .int (x13 + (5 : Int32)), .int x14]) rfl ?_
    refine r_goto (tgt := 115) hK d_X11_fitted_232 (by decide) ?_
    refine r_junk [true, true, true, true, true, true, true, true, true, true, true, true, true, true, false] (ls2 := [.ref 0, .int x1, .int x2, .int x3, .int x4, .int x5, .int x6, .int x7, .ref a8, .int x9, .int v7, .int x14, .int x12, .int (x13 + (5 : Int32)), gs_J]) rfl ?_
    exact hq115 _ _ _ _ _ _ _ _ _ _ _ _ _ _ hk8 hD
set_option maxRecDepth 20000 in
theorem T_X11_fitted_153  (hK : KC p R s m args meth c ad g tyc RX11 cX11_fitted 15 (some .int) 7) {r : Int32} {μ2 : gs_M} {q106 : Int32 → Int32 → Int32 → Int32 → Int32 → Int32 → Int32 → Nat → Int32 → Int32 → Int32 → Int32 → gs_M → Option (Int32 × gs_M)} {q115 : Int32 → Int32 → Int32 → Int32 → Int32 → Int32 → Int32 → Nat → Int32 → Int32 → Int32 → Int32 → Int32 → gs_M → Option (Int32 × gs_M)} (hq106 : ∀ (x1 : Int32) (x2 : Int32) (x3 : Int32) (x4 : Int32) (x5 : Int32) (x6 : Int32) (x7 : Int32) (a8 : Nat) (x9 : Int32) (x10 : Int32) (x11 : Int32) (x12 : Int32) (μ : gs_M), kd a8 = 1 → q106 x1 x2 x3 x4 x5 x6 x7 a8 x9 x10 x11 x12 μ = some (r, μ2) → WJ p l e R s m args below meth c 0 0 (MQ below (gs_Q ad g tyc (some (.int r)) μ2) args s 0 0 (gs_A ad)) ad g tyc 15 106 [.ref 0, .int x1, .int x2, .int x3, .int x4, .int x5, .int x6, .int x7, .ref a8, .int x9, .int x10, .int x11, .int x12, gs_J, gs_J] [] μ) (hq115 : ∀ (x1 : Int32) (x2 : Int32) (x3 : Int32) (x4 : Int32) (x5 : Int32) (x6 : Int32) (x7 : Int32) (a8 : Nat) (x9 : Int32) (x10 : Int32) (x11 : Int32) (x12 : Int32) (x13 : Int32) (μ : gs_M), kd a8 = 1 → q115 x1 x2 x3 x4 x5 x6 x7 a8 x9 x10 x11 x12 x13 μ = some (r, μ2) → WJ p l e R s m args below meth c 0 0 (MQ below (gs_Q ad g tyc (some (.int r)) μ2) args s 0 0 (gs_A ad)) ad g tyc 15 115 [.ref 0, .int x1, .int x2, .int x3, .int x4, .int x5, .int x6, .int x7, .ref a8, .int x9, .int x10, .int x11, .int x12, .int x13, gs_J] [] μ) {x1 : Int32} {x2 : Int32} {x3 : Int32} {x4 : Int32} {x5 : Int32} {x6 : Int32} {x7 : Int32} {a8 : Nat} {x9 : Int32} {x10 : Int32} {x11 : Int32} {x12 : Int32} {x13 : Int32} {x14 : Int32} {μ : gs_M} (hk8 : kd a8 = 1) (hD : B_X11_fitted_153 q106 q115 x1 x2 x3 x4 x5 x6 x7 a8 x9 x10 x11 x12 x13 x14 μ = some (r, μ2)) : WJ p l e R s m args below meth c 0 0 (MQ below (gs_Q ad g tyc (some (.int r)) μ2) args s 0 0 (gs_A ad)) ad g tyc 15 153 [.ref 0, .int x1, .int x2, .int x3, .int x4, .int x5, .int x6, .int x7, .ref a8, .int x9, .int x10, .int x11, .int x12, .int x13, .int x14] [] μ := by
  unfold B_X11_fitted_153 at hD
  refine r_aload hK d_X11_fitted_153 rfl ?_
  refine r_iload hK d_X11_fitted_155 rfl ?_
  refine r_putI hK d_X11_fitted_157 fl_RX11_196_1 rfl rfl hk8 ?_
  refine r_ltm hD (fun u1 hD => ?_)
  refine r_aload hK d_X11_fitted_160 rfl ?_
  refine r_iload hK d_X11_fitted_162 rfl ?_
  refine r_putI hK d_X11_fitted_164 fl_RX11_199_1 rfl rfl hk8 ?_
  refine r_ltm hD (fun u2 hD => ?_)
  refine r_aload hK d_X11_fitted_167 rfl ?_
  refine r_aload_n hK d_X11_fitted_169 rfl rfl ?_
  refine r_getR hK d_X11_fitted_170 fl_RX11_44_10 rfl kd_0 ?_
  refine r_ref (b := 13) R0_0_5 ?_
  refine r_iload_n hK d_X11_fitted_173 rfl rfl ?_
  refine r_iload_n hK d_X11_fitted_174 rfl rfl ?_
  refine r_iconst hK d_X11_fitted_175 ci_1 ?_
  obtain ⟨v5, u4, e3, hD⟩ := bd_e hD
  refine r_callV (As := [.int x2, .int x3, .int (1 : Int32)]) (st := [.ref a8]) (stk2 := [.int v5, .ref a8]) hK (C_X9_number kd_13 e3) d_X11_fitted_176 mf_X9_number ml_RX11_150 im_X9_number rfl se_8_RX9_X9_number kd_13 rfl (Nat.le_of_ble_eq_true rfl) (by decide) ⟨Nat.zero_le _, Nat.zero_le _⟩ rfl rfl ?_
  refine r_aload_n hK d_X11_fitted_179 rfl rfl ?_
  refine r_getR hK d_X11_fitted_180 fl_RX11_44_10 rfl kd_0 ?_
  refine r_ref (b := 13) R0_0_5 ?_
  refine r_iload_n hK d_X11_fitted_183 rfl rfl ?_
  refine r_iload_n hK d_X11_fitted_184 rfl rfl ?_
  refine r_iconst hK d_X11_fitted_185 ci_2 ?_
  obtain ⟨v8, u7, e6, hD⟩ := bd_e hD
  refine r_callV (As := [.int x2, .int x3, .int (2 : Int32)]) (st := [.int v5, .ref a8]) (stk2 := [.int v8, .int v5, .ref a8]) hK (C_X9_number kd_13 e6) d_X11_fitted_186 mf_X9_number ml_RX11_150 im_X9_number rfl se_8_RX9_X9_number kd_13 rfl (Nat.le_of_ble_eq_true rfl) (by decide) ⟨Nat.zero_le _, Nat.zero_le _⟩ rfl rfl ?_
  refine r_iconst hK d_X11_fitted_189 ci_1 ?_
  refine r_icmp_ne (tgt := 197) hK d_X11_fitted_190 (by decide) (fun h9 => ?_) (fun h9 => ?_)
  · have hD := if_f hD h9
    refine r_iconst hK d_X11_fitted_197 ci_0 ?_
    exact T_X11_fitted_198 hK hq106 hq115 hk8 hk8 hD
  · have hD := if_t hD h9
    refine r_iconst hK d_X11_fitted_193 ci_1 ?_
    refine r_goto (tgt := 198) hK d_X11_fitted_194 (by decide) ?_
    exact T_X11_fitted_198 hK hq106 hq115 hk8 hk8 hD
set_option maxRecDepth 20000 in
theorem To_X11_fitted_115  (hK : KC p R s m args meth c ad g tyc RX11 cX11_fitted 15 (some .int) 7) {r : Int32} {μ2 : gs_M} {q106 : Int32 → Int32 → Int32 → Int32 → Int32 → Int32 → Int32 → Nat → Int32 → Int32 → Int32 → Int32 → gs_M → Option (Int32 × gs_M)} {q115 : Int32 → Int32 → Int32 → Int32 → Int32 → Int32 → Int32 → Nat → Int32 → Int32 → Int32 → Int32 → Int32 → gs_M → Option (Int32 × gs_M)} (hq106 : ∀ (x1 : Int32) (x2 : Int32) (x3 : Int32) (x4 : Int32) (x5 : Int32) (x6 : Int32) (x7 : Int32) (a8 : Nat) (x9 : Int32) (x10 : Int32) (x11 : Int32) (x12 : Int32) (μ : gs_M), kd a8 = 1 → q106 x1 x2 x3 x4 x5 x6 x7 a8 x9 x10 x11 x12 μ = some (r, μ2) → WJ p l e R s m args below meth c 0 0 (MQ below (gs_Q ad g tyc (some (.int r)) μ2) args s 0 0 (gs_A ad)) ad g tyc 15 106 [.ref 0, .int x1, .int x2, .int x3, .int x4, .int x5, .int x6, .int x7, .ref a8, .int x9, .int x10, .int x11, .int x12, gs_J, gs_J] [] μ) (hq115 : ∀ (x1 : Int32) (x2 : Int32) (x3 : Int32) (x4 : Int32) (x5 : Int32) (x6 : Int32) (x7 : Int32) (a8 : Nat) (x9 : Int32) (x10 : Int32) (x11 : Int32) (x12 : Int32) (x13 : Int32) (μ : gs_M), kd a8 = 1 → q115 x1 x2 x3 x4 x5 x6 x7 a8 x9 x10 x11 x12 x13 μ = some (r, μ2) → WJ p l e R s m args below meth c 0 0 (MQ below (gs_Q ad g tyc (some (.int r)) μ2) args s 0 0 (gs_A ad)) ad g tyc 15 115 [.ref 0, .int x1, .int x2, .int x3, .int x4, .int x5, .int x6, .int x7, .ref a8, .int x9, .int x10, .int x11, .int x12, .int x13, gs_J] [] μ) {x1 : Int32} {x2 : Int32} {x3 : Int32} {x4 : Int32} {x5 : Int32} {x6 : Int32} {x7 : Int32} {a8 : Nat} {x9 : Int32} {x10 : Int32} {x11 : Int32} {x12 : Int32} {x13 : Int32} {μ : gs_M} (hk8 : kd a8 = 1) (hD : Bo_X11_fitted_115 q106 q115 x1 x2 x3 x4 x5 x6 x7 a8 x9 x10 x11 x12 x13 μ = some (r, μ2)) : WJ p l e R s m args below meth c 0 0 (MQ below (gs_Q ad g tyc (some (.int r)) μ2) args s 0 0 (gs_A ad)) ad g tyc 15 115 [.ref 0, .int x1, .int x2, .int x3, .int x4, .int x5, .int x6, .int x7, .ref a8, .int x9, .int x10, .int x11, .int x12, .int x13, gs_J] [] μ := by
  unfold Bo_X11_fitted_115 at hD
  refine r_iload hK d_X11_fitted_115 rfl ?_
  refine r_bipush hK d_X11_fitted_117 cb_40 ?_
  refine r_icmp_gt (tgt := 235) hK d_X11_fitted_119 (by decide) (fun h1 => ?_) (fun h1 => ?_)
  · have hD := if_t hD h1
    refine r_iinc hK d_X11_fitted_235 rfl (v := x12 + (1 : Int32)) (by rw [ci_1]) (by decide) (ls2 := [.ref 0, .int x1, .int x2, .int x3, .int x4, .int x5, .int x6, .int x7, .ref a8, .int x9, .int x10, .int x11, .int (x12 + (1 : Int32)), .int x13, gs_J]) rfl ?_
    refine r_goto (tgt := 106) hK d_X11_fitted_238 (by decide) ?_
    refine r_junk [true, true, true, true, true, true, true, true, true, true, true, true, true, false, false] (ls2 := [.ref 0, .int x1, .int x2, .int x3, .int x4, .int x5, .int x6, .int x7, .ref a8, .int x9, .int x10, .int x11, .int (x12 + (1 : Int32)), gs_J, gs_J]) rfl ?_
    exact hq106 _ _ _ _ _ _ _ _ _ _ _ _ _ hk8 hD
  · have hD := if_f hD h1
    refine r_iload hK d_X11_fitted_122 rfl ?_
    refine r_aload_n hK d_X11_fitted_124 rfl rfl ?_
    refine r_iload_n hK d_X11_fitted_125 rfl rfl ?_
    refine r_iload_n hK d_X11_fitted_126 rfl rfl ?_
    refine r_iload hK d_X11_fitted_127 rfl ?_
    refine r_iload hK d_X11_fitted_129 rfl ?_
    obtain ⟨v4, u3, e2, hD⟩ := bd_e hD
    refine r_callV (As := [.int x1, .int x3, .int x13, .int x12]) (st := [.int x9]) (stk2 := [.int v4, .int x9]) hK (C_X11_fittingCost  e2) d_X11_fitted_131 mf_X11_fittingCost ml_RX11_300 im_X11_fittingCost rfl se_10_RX11_X11_fittingCost kd_0 rfl (Nat.le_of_ble_eq_true rfl) (by decide) ⟨Nat.zero_le _, Nat.zero_le _⟩ rfl rfl ?_
    refine r_iadd hK d_X11_fitted_134 ?_
    refine r_lti hD (fun v5 hD => ?_)
    refine r_istore hK d_X11_fitted_135 (by decide) (ls2 := [.ref 0, .int x1, .int x2, .int x3, .int x4, .int x5, .int x6, .int x7, .ref a8, .int x9, .int x10, .int x11, .int x12, .int x13, .int v5]) rfl ?_
    refine r_iload hK d_X11_fitted_137 rfl ?_
    refine r_iconst hK d_X11_fitted_139 ci_m1 ?_
    refine r_icmp_eq (tgt := 153) hK d_X11_fitted_140 (by decide) (fun h6 => ?_) (fun h6 => ?_)
    · have hD := if_t hD h6
      exact T_X11_fitted_153 hK hq106 hq115 hk8 hD
    · have hD := if_f hD h6
      refine r_iload hK d_X11_fitted_143 rfl ?_
      refine r_iload hK d_X11_fitted_145 rfl ?_
      refine r_icmp_lt (tgt := 153) hK d_X11_fitted_147 (by decide) (fun h7 => ?_) (fun h7 => ?_)
      · have hD := if_t hD h7
        exact T_X11_fitted_153 hK hq106 hq115 hk8 hD
      · have hD := if_f hD h7
        refine r_goto (tgt := 229) hK d_X11_fitted_150 (by decide) ?_
        refine r_iinc hK d_X11_fitted_229 rfl (v := x13 + (5 : Int32)) (by rw [ci_5]) (by decide) (ls2 := [.ref 0, .int x1, .int x2, .int x3, .int x4, .int x5, .int x6, .int x7, .ref a8, .int x9, .int x10, .int x11, .int x12, .int (x13 + (5 : Int32)), .int v5]) rfl ?_
        refine r_goto (tgt := 115) hK d_X11_fitted_232 (by decide) ?_
        refine r_junk [true, true, true, true, true, true, true, true, true, true, true, true, true, true, false] (ls2 := [.ref 0, .int x1, .int x2, .int x3, .int x4, .int x5, .int x6, .int x7, .ref a8, .int x9, .int x10, .int x11, .int x12, .int (x13 + (5 : Int32)), gs_J]) rfl ?_
        exact hq115 _ _ _ _ _ _ _ _ _ _ _ _ _ _ hk8 hD
set_option maxRecDepth 20000 in
theorem TL_X11_fitted_115  (hK : KC p R s m args meth c ad g tyc RX11 cX11_fitted 15 (some .int) 7) {r : Int32} {μ2 : gs_M} {q106 : Int32 → Int32 → Int32 → Int32 → Int32 → Int32 → Int32 → Nat → Int32 → Int32 → Int32 → Int32 → gs_M → Option (Int32 × gs_M)} (hq106 : ∀ (x1 : Int32) (x2 : Int32) (x3 : Int32) (x4 : Int32) (x5 : Int32) (x6 : Int32) (x7 : Int32) (a8 : Nat) (x9 : Int32) (x10 : Int32) (x11 : Int32) (x12 : Int32) (μ : gs_M), kd a8 = 1 → q106 x1 x2 x3 x4 x5 x6 x7 a8 x9 x10 x11 x12 μ = some (r, μ2) → WJ p l e R s m args below meth c 0 0 (MQ below (gs_Q ad g tyc (some (.int r)) μ2) args s 0 0 (gs_A ad)) ad g tyc 15 106 [.ref 0, .int x1, .int x2, .int x3, .int x4, .int x5, .int x6, .int x7, .ref a8, .int x9, .int x10, .int x11, .int x12, gs_J, gs_J] [] μ) : ∀ (n : Nat) (x1 : Int32) (x2 : Int32) (x3 : Int32) (x4 : Int32) (x5 : Int32) (x6 : Int32) (x7 : Int32) (a8 : Nat) (x9 : Int32) (x10 : Int32) (x11 : Int32) (x12 : Int32) (x13 : Int32) (μ : gs_M), kd a8 = 1 → L_X11_fitted_115 q106 n x1 x2 x3 x4 x5 x6 x7 a8 x9 x10 x11 x12 x13 μ = some (r, μ2) → WJ p l e R s m args below meth c 0 0 (MQ below (gs_Q ad g tyc (some (.int r)) μ2) args s 0 0 (gs_A ad)) ad g tyc 15 115 [.ref 0, .int x1, .int x2, .int x3, .int x4, .int x5, .int x6, .int x7, .ref a8, .int x9, .int x10, .int x11, .int x12, .int x13, gs_J] [] μ := by
  intro n
  induction n with
  | zero => intro x1 x2 x3 x4 x5 x6 x7 a8 x9 x10 x11 x12 x13 μ hk8 hD; cases hD
  | succ n ih => intro x1 x2 x3 x4 x5 x6 x7 a8 x9 x10 x11 x12 x13 μ hk8 hD; exact To_X11_fitted_115 hK hq106 ih hk8 hD
set_option maxRecDepth 20000 in
theorem To_X11_fitted_106  (hK : KC p R s m args meth c ad g tyc RX11 cX11_fitted 15 (some .int) 7) {r : Int32} {μ2 : gs_M} {q106 : Int32 → Int32 → Int32 → Int32 → Int32 → Int32 → Int32 → Nat → Int32 → Int32 → Int32 → Int32 → gs_M → Option (Int32 × gs_M)} (hq106 : ∀ (x1 : Int32) (x2 : Int32) (x3 : Int32) (x4 : Int32) (x5 : Int32) (x6 : Int32) (x7 : Int32) (a8 : Nat) (x9 : Int32) (x10 : Int32) (x11 : Int32) (x12 : Int32) (μ : gs_M), kd a8 = 1 → q106 x1 x2 x3 x4 x5 x6 x7 a8 x9 x10 x11 x12 μ = some (r, μ2) → WJ p l e R s m args below meth c 0 0 (MQ below (gs_Q ad g tyc (some (.int r)) μ2) args s 0 0 (gs_A ad)) ad g tyc 15 106 [.ref 0, .int x1, .int x2, .int x3, .int x4, .int x5, .int x6, .int x7, .ref a8, .int x9, .int x10, .int x11, .int x12, gs_J, gs_J] [] μ) {x1 : Int32} {x2 : Int32} {x3 : Int32} {x4 : Int32} {x5 : Int32} {x6 : Int32} {x7 : Int32} {a8 : Nat} {x9 : Int32} {x10 : Int32} {x11 : Int32} {x12 : Int32} {μ : gs_M} (hk8 : kd a8 = 1) (hD : Bo_X11_fitted_106 q106 x1 x2 x3 x4 x5 x6 x7 a8 x9 x10 x11 x12 μ = some (r, μ2)) : WJ p l e R s m args below meth c 0 0 (MQ below (gs_Q ad g tyc (some (.int r)) μ2) args s 0 0 (gs_A ad)) ad g tyc 15 106 [.ref 0, .int x1, .int x2, .int x3, .int x4, .int x5, .int x6, .int x7, .ref a8, .int x9, .int x10, .int x11, .int x12, gs_J, gs_J] [] μ := by
  unfold Bo_X11_fitted_106 at hD
  refine r_iload hK d_X11_fitted_106 rfl ?_
  refine r_iconst hK d_X11_fitted_108 ci_3 ?_
  refine r_icmp_gt (tgt := 241) hK d_X11_fitted_109 (by decide) (fun h1 => ?_) (fun h1 => ?_)
  · have hD := if_t hD h1
    refine r_iload hK d_X11_fitted_241 rfl ?_
    refine r_if_eq (tgt := 252) hK d_X11_fitted_243 (by decide) (fun h2 => ?_) (fun h2 => ?_)
    · have hD := if_t hD h2
      refine r_iload hK d_X11_fitted_252 rfl ?_
      refine r_goto (tgt := 259) hK d_X11_fitted_254 (by decide) ?_
      cases hD
      exact r_iret hK d_X11_fitted_259
    · have hD := if_f hD h2
      refine r_iload hK d_X11_fitted_246 rfl ?_
      refine r_iconst hK d_X11_fitted_248 ci_m1 ?_
      refine r_icmp_ne (tgt := 257) hK d_X11_fitted_249 (by decide) (fun h3 => ?_) (fun h3 => ?_)
      · have hD := if_f hD h3
        refine r_iload hK d_X11_fitted_257 rfl ?_
        cases hD
        exact r_iret hK d_X11_fitted_259
      · have hD := if_t hD h3
        refine r_iload hK d_X11_fitted_252 rfl ?_
        refine r_goto (tgt := 259) hK d_X11_fitted_254 (by decide) ?_
        cases hD
        exact r_iret hK d_X11_fitted_259
  · have hD := if_f hD h1
    refine r_iconst hK d_X11_fitted_112 ci_0 ?_
    refine r_istore hK d_X11_fitted_113 (by decide) (ls2 := [.ref 0, .int x1, .int x2, .int x3, .int x4, .int x5, .int x6, .int x7, .ref a8, .int x9, .int x10, .int x11, .int x12, .int (0 : Int32), gs_J]) rfl ?_
    exact TL_X11_fitted_115 hK hq106 _ _ _ _ _ _ _ _ _ _ _ _ _ _ _ hk8 hD
set_option maxRecDepth 20000 in
theorem TL_X11_fitted_106  (hK : KC p R s m args meth c ad g tyc RX11 cX11_fitted 15 (some .int) 7) {r : Int32} {μ2 : gs_M}   : ∀ (n : Nat) (x1 : Int32) (x2 : Int32) (x3 : Int32) (x4 : Int32) (x5 : Int32) (x6 : Int32) (x7 : Int32) (a8 : Nat) (x9 : Int32) (x10 : Int32) (x11 : Int32) (x12 : Int32) (μ : gs_M), kd a8 = 1 → L_X11_fitted_106  n x1 x2 x3 x4 x5 x6 x7 a8 x9 x10 x11 x12 μ = some (r, μ2) → WJ p l e R s m args below meth c 0 0 (MQ below (gs_Q ad g tyc (some (.int r)) μ2) args s 0 0 (gs_A ad)) ad g tyc 15 106 [.ref 0, .int x1, .int x2, .int x3, .int x4, .int x5, .int x6, .int x7, .ref a8, .int x9, .int x10, .int x11, .int x12, gs_J, gs_J] [] μ := by
  intro n
  induction n with
  | zero => intro x1 x2 x3 x4 x5 x6 x7 a8 x9 x10 x11 x12 μ hk8 hD; cases hD
  | succ n ih => intro x1 x2 x3 x4 x5 x6 x7 a8 x9 x10 x11 x12 μ hk8 hD; exact To_X11_fitted_106 hK  ih hk8 hD
set_option maxRecDepth 20000 in
theorem C_X11_fitted  {x1 : Int32} {x2 : Int32} {x3 : Int32} {x4 : Int32} {x5 : Int32} {x6 : Int32} {x7 : Int32} {μ : gs_M} {r : Int32} {μ2 : gs_M}  (hD : D_X11_fitted x1 x2 x3 x4 x5 x6 x7 μ = some (r, μ2)) : CALL yX11_fitted cX11_fitted 15 (some .int) 7 [.ref 0, .int x1, .int x2, .int x3, .int x4, .int x5, .int x6, .int x7] μ (some (.int r)) μ2 := by
  unfold D_X11_fitted at hD
  refine gs_enter mf_X11_fitted (Nat.le_of_ble_eq_true rfl) (ls := [.ref 0, .int x1, .int x2, .int x3, .int x4, .int x5, .int x6, .int x7, gs_J, gs_J, gs_J, gs_J, gs_J, gs_J, gs_J]) rfl (fun p l e R s m args below meth c ad g tyc hK => ?_)
  have hK : KC p R s m args meth c ad g tyc RX11 cX11_fitted 15 (some .int) 7 := hK
  refine r_aload_n hK d_X11_fitted_0 rfl rfl ?_
  refine r_iload_n hK d_X11_fitted_1 rfl rfl ?_
  refine r_iload_n hK d_X11_fitted_2 rfl rfl ?_
  obtain ⟨v3, u2, e1, hD⟩ := bd_e hD
  refine r_callV (As := [.int x1, .int x2]) (st := []) (stk2 := [.int v3]) hK (C_X11_canLoad  e1) d_X11_fitted_3 mf_X11_canLoad ml_RX11_166 im_X11_canLoad rfl se_10_RX11_X11_canLoad kd_0 rfl (Nat.le_of_ble_eq_true rfl) (by decide) ⟨Nat.zero_le _, Nat.zero_le _⟩ rfl rfl ?_
  refine r_if_eq (tgt := 49) hK d_X11_fitted_6 (by decide) (fun h4 => ?_) (fun h4 => ?_)
  · have hD := if_t hD h4
    refine r_iconst hK d_X11_fitted_49 ci_m1 ?_
    cases hD
    exact r_iret hK d_X11_fitted_50
  · have hD := if_f hD h4
    refine r_iload_n hK d_X11_fitted_9 rfl rfl ?_
    refine r_iconst hK d_X11_fitted_10 ci_0 ?_
    refine r_aload_n hK d_X11_fitted_11 rfl rfl ?_
    refine r_getR hK d_X11_fitted_12 fl_RX11_41_10 rfl kd_0 ?_
    refine r_ref (b := 10) R0_0_4 ?_
    refine r_iload_n hK d_X11_fitted_15 rfl rfl ?_
    obtain ⟨v7, u6, e5, hD⟩ := bd_e hD
    refine r_callV (As := [.int x1]) (st := [.int (0 : Int32), .int x3]) (stk2 := [.int v7, .int (0 : Int32), .int x3]) hK (C_X9_rowsOf kd_10 e5) d_X11_fitted_16 mf_X9_rowsOf ml_RX11_154 im_X9_rowsOf rfl se_8_RX9_X9_rowsOf kd_10 rfl (Nat.le_of_ble_eq_true rfl) (by decide) ⟨Nat.zero_le _, Nat.zero_le _⟩ rfl rfl ?_
    refine r_iconst hK d_X11_fitted_19 ci_1 ?_
    refine r_isub hK d_X11_fitted_20 ?_
    obtain ⟨v10, u9, e8, hD⟩ := bd_e hD
    refine r_callS (As := [.int x3, .int (0 : Int32), .int (v7 - (1 : Int32))]) (st := []) (stk2 := [.int v10]) hK (C_X11_within  e8) d_X11_fitted_21 mf_X11_within ml_RX11_123 ss_X11_within rfl (Nat.le_of_ble_eq_true rfl) (by decide) ⟨Nat.zero_le _, Nat.zero_le _⟩ rfl rfl ?_
    refine r_if_eq (tgt := 49) hK d_X11_fitted_24 (by decide) (fun h11 => ?_) (fun h11 => ?_)
    · have hD := if_t hD h11
      refine r_iconst hK d_X11_fitted_49 ci_m1 ?_
      cases hD
      exact r_iret hK d_X11_fitted_50
    · have hD := if_f hD h11
      refine r_iload hK d_X11_fitted_27 rfl ?_
      refine r_iload hK d_X11_fitted_29 rfl ?_
      refine r_iload hK d_X11_fitted_31 rfl ?_
      obtain ⟨v14, u13, e12, hD⟩ := bd_e hD
      refine r_callS (As := [.int x4, .int x5, .int x6]) (st := []) (stk2 := [.int v14]) hK (C_X11_isVoyage  e12) d_X11_fitted_33 mf_X11_isVoyage ml_RX11_304 ss_X11_isVoyage rfl (Nat.le_of_ble_eq_true rfl) (by decide) ⟨Nat.zero_le _, Nat.zero_le _⟩ rfl rfl ?_
      refine r_if_eq (tgt := 49) hK d_X11_fitted_36 (by decide) (fun h15 => ?_) (fun h15 => ?_)
      · have hD := if_t hD h15
        refine r_iconst hK d_X11_fitted_49 ci_m1 ?_
        cases hD
        exact r_iret hK d_X11_fitted_50
      · have hD := if_f hD h15
        refine r_iload hK d_X11_fitted_39 rfl ?_
        refine r_iconst hK d_X11_fitted_41 ci_0 ?_
        refine r_iconst hK d_X11_fitted_42 ci_1 ?_
        obtain ⟨v18, u17, e16, hD⟩ := bd_e hD
        refine r_callS (As := [.int x7, .int (0 : Int32), .int (1 : Int32)]) (st := []) (stk2 := [.int v18]) hK (C_X11_within  e16) d_X11_fitted_43 mf_X11_within ml_RX11_123 ss_X11_within rfl (Nat.le_of_ble_eq_true rfl) (by decide) ⟨Nat.zero_le _, Nat.zero_le _⟩ rfl rfl ?_
        refine r_if_ne (tgt := 51) hK d_X11_fitted_46 (by decide) (fun h19 => ?_) (fun h19 => ?_)
        · have hD := if_f hD h19
          refine r_aload_n hK d_X11_fitted_51 rfl rfl ?_
          refine r_aload_n hK d_X11_fitted_52 rfl rfl ?_
          refine r_getR hK d_X11_fitted_53 fl_RX11_73_10 rfl kd_0 ?_
          refine r_ref (b := 46) R0_0_10 ?_
          refine r_iload_n hK d_X11_fitted_56 rfl rfl ?_
          refine r_iload_n hK d_X11_fitted_57 rfl rfl ?_
          obtain ⟨u21, e20, hD⟩ := bd0_e hD
          refine r_callV (As := [.ref 46, .int x1, .int x2]) (st := []) (stk2 := []) hK (C_X11_lay kd_46 e20) d_X11_fitted_58 mf_X11_lay ml_RX11_170 im_X11_lay rfl se_10_RX11_X11_lay kd_0 rfl (Nat.le_of_ble_eq_true rfl) (by decide) ⟨Nat.zero_le _, Nat.zero_le _⟩ rfl rfl ?_
          refine r_aload_n hK d_X11_fitted_61 rfl rfl ?_
          refine r_getR hK d_X11_fitted_62 fl_RX11_73_10 rfl kd_0 ?_
          refine r_ref (b := 46) R0_0_10 ?_
          refine r_getR hK d_X11_fitted_65 fl_RX11_182_9 rfl kd_46 ?_
          refine r_ref (b := (46 + 1)) ((ly_ves _ kd_46).1.1) ?_
          refine r_iload_n hK d_X11_fitted_68 rfl rfl ?_
          obtain ⟨h22, hD⟩ := ck_e hD
          refine r_aaldH hK d_X11_fitted_69 ((ly_ves _ kd_46).1.2.1) ((ly_ves _ kd_46).1.2.2) (inb_in h22) ?_
          refine r_ref (b := (46 + 2 + 2 * Int32.toNatClampNeg x3)) ((ly_vh _ kd_46 _ (inb_lt h22)).1) ?_
          refine r_astore hK d_X11_fitted_70 (by decide) (ls2 := [.ref 0, .int x1, .int x2, .int x3, .int x4, .int x5, .int x6, .int x7, .ref (46 + 2 + 2 * Int32.toNatClampNeg x3), gs_J, gs_J, gs_J, gs_J, gs_J, gs_J]) rfl ?_
          refine r_aload_n hK d_X11_fitted_72 rfl rfl ?_
          refine r_iload_n hK d_X11_fitted_73 rfl rfl ?_
          refine r_iload_n hK d_X11_fitted_74 rfl rfl ?_
          obtain ⟨v25, u24, e23, hD⟩ := bd_e hD
          refine r_callV (As := [.int x1, .int x2]) (st := []) (stk2 := [.int v25]) hK (C_X11_cost  e23) d_X11_fitted_75 mf_X11_cost ml_RX11_311 im_X11_cost rfl se_10_RX11_X11_cost kd_0 rfl (Nat.le_of_ble_eq_true rfl) (by decide) ⟨Nat.zero_le _, Nat.zero_le _⟩ rfl rfl ?_
          refine r_aload_n hK d_X11_fitted_78 rfl rfl ?_
          refine r_iload_n hK d_X11_fitted_79 rfl rfl ?_
          refine r_iload_n hK d_X11_fitted_80 rfl rfl ?_
          refine r_aload hK d_X11_fitted_81 rfl ?_
          refine r_getI hK d_X11_fitted_83 fl_RX11_196_1 rfl ((ly_vh _ kd_46 _ (inb_lt h22)).2) ?_
          refine r_aload hK d_X11_fitted_86 rfl ?_
          refine r_getI hK d_X11_fitted_88 fl_RX11_199_1 rfl ((ly_vh _ kd_46 _ (inb_lt h22)).2) ?_
          obtain ⟨v28, u27, e26, hD⟩ := bd_e hD
          refine r_callV (As := [.int x1, .int x3, .int (gI u24 (46 + 2 + 2 * Int32.toNatClampNeg x3) 2), .int (gI u24 (46 + 2 + 2 * Int32.toNatClampNeg x3) 3)]) (st := [.int v25]) (stk2 := [.int v28, .int v25]) hK (C_X11_fittingCost  e26) d_X11_fitted_91 mf_X11_fittingCost ml_RX11_300 im_X11_fittingCost rfl se_10_RX11_X11_fittingCost kd_0 rfl (Nat.le_of_ble_eq_true rfl) (by decide) ⟨Nat.zero_le _, Nat.zero_le _⟩ rfl rfl ?_
          refine r_isub hK d_X11_fitted_94 ?_
          refine r_lti hD (fun v29 hD => ?_)
          refine r_istore hK d_X11_fitted_95 (by decide) (ls2 := [.ref 0, .int x1, .int x2, .int x3, .int x4, .int x5, .int x6, .int x7, .ref (46 + 2 + 2 * Int32.toNatClampNeg x3), .int v29, gs_J, gs_J, gs_J, gs_J, gs_J]) rfl ?_
          refine r_iconst hK d_X11_fitted_97 ci_m1 ?_
          refine r_istore hK d_X11_fitted_98 (by decide) (ls2 := [.ref 0, .int x1, .int x2, .int x3, .int x4, .int x5, .int x6, .int x7, .ref (46 + 2 + 2 * Int32.toNatClampNeg x3), .int v29, .int (-1 : Int32), gs_J, gs_J, gs_J, gs_J]) rfl ?_
          refine r_iconst hK d_X11_fitted_100 ci_0 ?_
          refine r_istore hK d_X11_fitted_101 (by decide) (ls2 := [.ref 0, .int x1, .int x2, .int x3, .int x4, .int x5, .int x6, .int x7, .ref (46 + 2 + 2 * Int32.toNatClampNeg x3), .int v29, .int (-1 : Int32), .int (0 : Int32), gs_J, gs_J, gs_J]) rfl ?_
          refine r_iconst hK d_X11_fitted_103 ci_0 ?_
          refine r_istore hK d_X11_fitted_104 (by decide) (ls2 := [.ref 0, .int x1, .int x2, .int x3, .int x4, .int x5, .int x6, .int x7, .ref (46 + 2 + 2 * Int32.toNatClampNeg x3), .int v29, .int (-1 : Int32), .int (0 : Int32), .int (0 : Int32), gs_J, gs_J]) rfl ?_
          exact TL_X11_fitted_106 hK  _ _ _ _ _ _ _ _ _ _ _ _ _ _ ((ly_vh _ kd_46 _ (inb_lt h22)).2) hD
        · have hD := if_t hD h19
          refine r_iconst hK d_X11_fitted_49 ci_m1 ?_
          cases hD
          exact r_iret hK d_X11_fitted_50
end S_X11_fitted
theorem d_X11_log_0 : gd cX11_log 0 (.iload_n 1) 1 1 := ⟨by decide +kernel, rfl⟩
theorem d_X11_log_1 : gd cX11_log 1 (.bipush (-60)) 2 3 := ⟨by decide +kernel, rfl⟩
theorem d_X11_log_3 : gd cX11_log 3 (.bipush 60) 2 5 := ⟨by decide +kernel, rfl⟩
theorem d_X11_log_5 : gd cX11_log 5 (.invokestatic 123) 3 8 := ⟨by decide +kernel, rfl⟩
theorem d_X11_log_8 : gd cX11_log 8 (.ifCond .eq 12) 3 11 := ⟨by decide +kernel, rfl⟩
theorem d_X11_log_11 : gd cX11_log 11 (.aload_n 0) 1 12 := ⟨by decide +kernel, rfl⟩
theorem d_X11_log_12 : gd cX11_log 12 (.getfield 93) 3 15 := ⟨by decide +kernel, rfl⟩
theorem d_X11_log_15 : gd cX11_log 15 (.bipush 20) 2 17 := ⟨by decide +kernel, rfl⟩
theorem d_X11_log_17 : gd cX11_log 17 (.if_icmp .lt 5) 3 20 := ⟨by decide +kernel, rfl⟩
theorem d_X11_log_20 : gd cX11_log 20 (.iconst (-1)) 1 21 := ⟨by decide +kernel, rfl⟩
theorem d_X11_log_21 : gd cX11_log 21 .ireturn 1 22 := ⟨by decide +kernel, rfl⟩
theorem d_X11_log_22 : gd cX11_log 22 (.aload_n 0) 1 23 := ⟨by decide +kernel, rfl⟩
theorem d_X11_log_23 : gd cX11_log 23 (.getfield 89) 3 26 := ⟨by decide +kernel, rfl⟩
theorem d_X11_log_26 : gd cX11_log 26 (.aload_n 0) 1 27 := ⟨by decide +kernel, rfl⟩
theorem d_X11_log_27 : gd cX11_log 27 (.getfield 93) 3 30 := ⟨by decide +kernel, rfl⟩
theorem d_X11_log_30 : gd cX11_log 30 (.iload_n 1) 1 31 := ⟨by decide +kernel, rfl⟩
theorem d_X11_log_31 : gd cX11_log 31 .iastore 1 32 := ⟨by decide +kernel, rfl⟩
theorem d_X11_log_32 : gd cX11_log 32 (.aload_n 0) 1 33 := ⟨by decide +kernel, rfl⟩
theorem d_X11_log_33 : gd cX11_log 33 .dup 1 34 := ⟨by decide +kernel, rfl⟩
theorem d_X11_log_34 : gd cX11_log 34 (.getfield 93) 3 37 := ⟨by decide +kernel, rfl⟩
theorem d_X11_log_37 : gd cX11_log 37 (.iconst 1) 1 38 := ⟨by decide +kernel, rfl⟩
theorem d_X11_log_38 : gd cX11_log 38 .iadd 1 39 := ⟨by decide +kernel, rfl⟩
theorem d_X11_log_39 : gd cX11_log 39 (.putfield 93) 3 42 := ⟨by decide +kernel, rfl⟩
theorem d_X11_log_42 : gd cX11_log 42 (.aload_n 0) 1 43 := ⟨by decide +kernel, rfl⟩
theorem d_X11_log_43 : gd cX11_log 43 (.getfield 93) 3 46 := ⟨by decide +kernel, rfl⟩
theorem d_X11_log_46 : gd cX11_log 46 .ireturn 1 47 := ⟨by decide +kernel, rfl⟩
def D_X11_log (x1 : Int32) (μ : gs_M) : Option (Int32 × gs_M) :=
  bd (D_X11_within x1 (-60 : Int32) (60 : Int32) μ) (fun v3 u2 => if v3 = 0 then (some ((-1 : Int32), u2)) else (if (gI u2 0 15) < (20 : Int32) then (ck (inb (gI u2 0 15) 20) (lt1 (sI u2 72 (Int32.toNatClampNeg (gI u2 0 15)) x1) (fun u7 => lt1 (sI u7 0 15 ((gI u7 0 15) + (1 : Int32))) (fun u8 => some (gI u8 0 15, u8))))) else (some ((-1 : Int32), u2))))
section S_X11_log
variable {p : Program} {l : Launch} {e : Env} {R : Room} {s : State} {m : MethodId} {args : Array Value} {below : List Frame} {meth : Method} {c : Code} {ad : Nat → Nat} {g : va_G} {tyc : Nat → ClassId}
set_option maxRecDepth 20000 in
theorem C_X11_log  {x1 : Int32} {μ : gs_M} {r : Int32} {μ2 : gs_M}  (hD : D_X11_log x1 μ = some (r, μ2)) : CALL yX11_log cX11_log 2 (some .int) 1 [.ref 0, .int x1] μ (some (.int r)) μ2 := by
  unfold D_X11_log at hD
  refine gs_enter mf_X11_log (Nat.le_of_ble_eq_true rfl) (ls := [.ref 0, .int x1]) rfl (fun p l e R s m args below meth c ad g tyc hK => ?_)
  have hK : KC p R s m args meth c ad g tyc RX11 cX11_log 2 (some .int) 1 := hK
  refine r_iload_n hK d_X11_log_0 rfl rfl ?_
  refine r_bipush hK d_X11_log_1 cb_m60 ?_
  refine r_bipush hK d_X11_log_3 cb_60 ?_
  obtain ⟨v3, u2, e1, hD⟩ := bd_e hD
  refine r_callS (As := [.int x1, .int (-60 : Int32), .int (60 : Int32)]) (st := []) (stk2 := [.int v3]) hK (C_X11_within  e1) d_X11_log_5 mf_X11_within ml_RX11_123 ss_X11_within rfl (Nat.le_of_ble_eq_true rfl) (by decide) ⟨Nat.zero_le _, Nat.zero_le _⟩ rfl rfl ?_
  refine r_if_eq (tgt := 20) hK d_X11_log_8 (by decide) (fun h4 => ?_) (fun h4 => ?_)
  · have hD := if_t hD h4
    refine r_iconst hK d_X11_log_20 ci_m1 ?_
    cases hD
    exact r_iret hK d_X11_log_21
  · have hD := if_f hD h4
    refine r_aload_n hK d_X11_log_11 rfl rfl ?_
    refine r_getI hK d_X11_log_12 fl_RX11_93_10 rfl kd_0 ?_
    refine r_bipush hK d_X11_log_15 cb_20 ?_
    refine r_icmp_lt (tgt := 22) hK d_X11_log_17 (by decide) (fun h5 => ?_) (fun h5 => ?_)
    · have hD := if_t hD h5
      refine r_aload_n hK d_X11_log_22 rfl rfl ?_
      refine r_getR hK d_X11_log_23 fl_RX11_89_10 rfl kd_0 ?_
      refine r_ref (b := 72) R0_0_14 ?_
      refine r_aload_n hK d_X11_log_26 rfl rfl ?_
      refine r_getI hK d_X11_log_27 fl_RX11_93_10 rfl kd_0 ?_
      refine r_iload_n hK d_X11_log_30 rfl rfl ?_
      obtain ⟨h6, hD⟩ := ck_e hD
      refine r_iast hK d_X11_log_31 kd_72 ln_72 (inb_in h6) ?_
      refine r_ltm hD (fun u7 hD => ?_)
      refine r_aload_n hK d_X11_log_32 rfl rfl ?_
      refine r_dup hK d_X11_log_33 rfl ?_
      refine r_getI hK d_X11_log_34 fl_RX11_93_10 rfl kd_0 ?_
      refine r_iconst hK d_X11_log_37 ci_1 ?_
      refine r_iadd hK d_X11_log_38 ?_
      refine r_putI hK d_X11_log_39 fl_RX11_93_10 rfl rfl kd_0 ?_
      refine r_ltm hD (fun u8 hD => ?_)
      refine r_aload_n hK d_X11_log_42 rfl rfl ?_
      refine r_getI hK d_X11_log_43 fl_RX11_93_10 rfl kd_0 ?_
      cases hD
      exact r_iret hK d_X11_log_46
    · have hD := if_f hD h5
      refine r_iconst hK d_X11_log_20 ci_m1 ?_
      cases hD
      exact r_iret hK d_X11_log_21
end S_X11_log
theorem d_X11_agreesWithLogs_0 : gd cX11_agreesWithLogs 0 (.aload_n 0) 1 1 := ⟨by decide +kernel, rfl⟩
theorem d_X11_agreesWithLogs_1 : gd cX11_agreesWithLogs 1 (.aload_n 0) 1 2 := ⟨by decide +kernel, rfl⟩
theorem d_X11_agreesWithLogs_2 : gd cX11_agreesWithLogs 2 (.getfield 76) 3 5 := ⟨by decide +kernel, rfl⟩
theorem d_X11_agreesWithLogs_5 : gd cX11_agreesWithLogs 5 (.iload_n 1) 1 6 := ⟨by decide +kernel, rfl⟩
theorem d_X11_agreesWithLogs_6 : gd cX11_agreesWithLogs 6 (.iload_n 2) 1 7 := ⟨by decide +kernel, rfl⟩
theorem d_X11_agreesWithLogs_7 : gd cX11_agreesWithLogs 7 (.invokevirtual 170) 3 10 := ⟨by decide +kernel, rfl⟩
theorem d_X11_agreesWithLogs_10 : gd cX11_agreesWithLogs 10 (.iconst 0) 1 11 := ⟨by decide +kernel, rfl⟩
theorem d_X11_agreesWithLogs_11 : gd cX11_agreesWithLogs 11 (.istore 5) 2 13 := ⟨by decide +kernel, rfl⟩
theorem d_X11_agreesWithLogs_13 : gd cX11_agreesWithLogs 13 (.iload 5) 2 15 := ⟨by decide +kernel, rfl⟩
theorem d_X11_agreesWithLogs_15 : gd cX11_agreesWithLogs 15 (.aload_n 0) 1 16 := ⟨by decide +kernel, rfl⟩
theorem d_X11_agreesWithLogs_16 : gd cX11_agreesWithLogs 16 (.getfield 93) 3 19 := ⟨by decide +kernel, rfl⟩
theorem d_X11_agreesWithLogs_19 : gd cX11_agreesWithLogs 19 (.if_icmp .ge 53) 3 22 := ⟨by decide +kernel, rfl⟩
theorem d_X11_agreesWithLogs_22 : gd cX11_agreesWithLogs 22 (.aload_n 0) 1 23 := ⟨by decide +kernel, rfl⟩
theorem d_X11_agreesWithLogs_23 : gd cX11_agreesWithLogs 23 (.getfield 76) 3 26 := ⟨by decide +kernel, rfl⟩
theorem d_X11_agreesWithLogs_26 : gd cX11_agreesWithLogs 26 (.getfield 262) 3 29 := ⟨by decide +kernel, rfl⟩
theorem d_X11_agreesWithLogs_29 : gd cX11_agreesWithLogs 29 (.ifCond .ne 12) 3 32 := ⟨by decide +kernel, rfl⟩
theorem d_X11_agreesWithLogs_32 : gd cX11_agreesWithLogs 32 (.aload_n 0) 1 33 := ⟨by decide +kernel, rfl⟩
theorem d_X11_agreesWithLogs_33 : gd cX11_agreesWithLogs 33 (.getfield 76) 3 36 := ⟨by decide +kernel, rfl⟩
theorem d_X11_agreesWithLogs_36 : gd cX11_agreesWithLogs 36 (.iload_n 3) 1 37 := ⟨by decide +kernel, rfl⟩
theorem d_X11_agreesWithLogs_37 : gd cX11_agreesWithLogs 37 (.invokevirtual 210) 3 40 := ⟨by decide +kernel, rfl⟩
theorem d_X11_agreesWithLogs_40 : gd cX11_agreesWithLogs 40 .pop 1 41 := ⟨by decide +kernel, rfl⟩
theorem d_X11_agreesWithLogs_41 : gd cX11_agreesWithLogs 41 (.aload_n 0) 1 42 := ⟨by decide +kernel, rfl⟩
theorem d_X11_agreesWithLogs_42 : gd cX11_agreesWithLogs 42 (.getfield 76) 3 45 := ⟨by decide +kernel, rfl⟩
theorem d_X11_agreesWithLogs_45 : gd cX11_agreesWithLogs 45 (.invokevirtual 256) 3 48 := ⟨by decide +kernel, rfl⟩
theorem d_X11_agreesWithLogs_48 : gd cX11_agreesWithLogs 48 (.aload_n 0) 1 49 := ⟨by decide +kernel, rfl⟩
theorem d_X11_agreesWithLogs_49 : gd cX11_agreesWithLogs 49 (.getfield 89) 3 52 := ⟨by decide +kernel, rfl⟩
theorem d_X11_agreesWithLogs_52 : gd cX11_agreesWithLogs 52 (.iload 5) 2 54 := ⟨by decide +kernel, rfl⟩
theorem d_X11_agreesWithLogs_54 : gd cX11_agreesWithLogs 54 .iaload 1 55 := ⟨by decide +kernel, rfl⟩
theorem d_X11_agreesWithLogs_55 : gd cX11_agreesWithLogs 55 .isub 1 56 := ⟨by decide +kernel, rfl⟩
theorem d_X11_agreesWithLogs_56 : gd cX11_agreesWithLogs 56 (.invokestatic 286) 3 59 := ⟨by decide +kernel, rfl⟩
theorem d_X11_agreesWithLogs_59 : gd cX11_agreesWithLogs 59 (.iload 4) 2 61 := ⟨by decide +kernel, rfl⟩
theorem d_X11_agreesWithLogs_61 : gd cX11_agreesWithLogs 61 (.if_icmp .le 5) 3 64 := ⟨by decide +kernel, rfl⟩
theorem d_X11_agreesWithLogs_64 : gd cX11_agreesWithLogs 64 (.iconst 0) 1 65 := ⟨by decide +kernel, rfl⟩
theorem d_X11_agreesWithLogs_65 : gd cX11_agreesWithLogs 65 .ireturn 1 66 := ⟨by decide +kernel, rfl⟩
theorem d_X11_agreesWithLogs_66 : gd cX11_agreesWithLogs 66 (.iinc 5 1) 3 69 := ⟨by decide +kernel, rfl⟩
theorem d_X11_agreesWithLogs_69 : gd cX11_agreesWithLogs 69 (.goto (-56)) 3 72 := ⟨by decide +kernel, rfl⟩
theorem d_X11_agreesWithLogs_72 : gd cX11_agreesWithLogs 72 (.iconst 1) 1 73 := ⟨by decide +kernel, rfl⟩
theorem d_X11_agreesWithLogs_73 : gd cX11_agreesWithLogs 73 .ireturn 1 74 := ⟨by decide +kernel, rfl⟩
def B_X11_agreesWithLogs_41 (q13 : Int32 → Int32 → Int32 → gs_M → Option (Int32 × gs_M)) (x3 : Int32) (x4 : Int32) (x5 : Int32) (μ : gs_M) : Option (Int32 × gs_M) :=
  bd (D_X10_lean 56 μ) (fun v3 u2 => ck (inb x5 20) (lt1 (if 0 ≤ (v3 - (gI u2 72 (Int32.toNatClampNeg x5))) then (v3 - (gI u2 72 (Int32.toNatClampNeg x5))) else 0 - (v3 - (gI u2 72 (Int32.toNatClampNeg x5)))) (fun v5 => if v5 ≤ x4 then (q13 x3 x4 (x5 + (1 : Int32)) u2) else (some ((0 : Int32), u2)))))
def Bo_X11_agreesWithLogs_13 (q13 : Int32 → Int32 → Int32 → gs_M → Option (Int32 × gs_M)) (x3 : Int32) (x4 : Int32) (x5 : Int32) (μ : gs_M) : Option (Int32 × gs_M) :=
  if (gI μ 0 15) ≤ x5 then (some ((1 : Int32), μ)) else (if (gI μ 56 4) = 0 then (bd (D_X10_rollBy 56 x3 μ) (fun v5 u4 => B_X11_agreesWithLogs_41 q13 x3 x4 x5 u4)) else (B_X11_agreesWithLogs_41 q13 x3 x4 x5 μ))
def L_X11_agreesWithLogs_13  : Nat → Int32 → Int32 → Int32 → gs_M → Option (Int32 × gs_M)
  | 0 => fun _ _ _ _ => none
  | n + 1 => fun x3 x4 x5 μ => Bo_X11_agreesWithLogs_13  (L_X11_agreesWithLogs_13  n) x3 x4 x5 μ
def D_X11_agreesWithLogs (x1 : Int32) (x2 : Int32) (x3 : Int32) (x4 : Int32) (μ : gs_M) : Option (Int32 × gs_M) :=
  bd0 (D_X11_lay 56 x1 x2 μ) (fun u2 => L_X11_agreesWithLogs_13 4096 x3 x4 (0 : Int32) u2)
section S_X11_agreesWithLogs
variable {p : Program} {l : Launch} {e : Env} {R : Room} {s : State} {m : MethodId} {args : Array Value} {below : List Frame} {meth : Method} {c : Code} {ad : Nat → Nat} {g : va_G} {tyc : Nat → ClassId}
set_option maxRecDepth 20000 in
theorem T_X11_agreesWithLogs_41  (hK : KC p R s m args meth c ad g tyc RX11 cX11_agreesWithLogs 6 (some .boolean) 6) {r : Int32} {μ2 : gs_M} {q13 : Int32 → Int32 → Int32 → gs_M → Option (Int32 × gs_M)} (hq13 : ∀ (x3 : Int32) (x4 : Int32) (x5 : Int32) (μ : gs_M), q13 x3 x4 x5 μ = some (r, μ2) → WJ p l e R s m args below meth c 0 0 (MQ below (gs_Q ad g tyc (some (.int r)) μ2) args s 0 0 (gs_A ad)) ad g tyc 6 13 [.ref 0, gs_J, gs_J, .int x3, .int x4, .int x5] [] μ) {x3 : Int32} {x4 : Int32} {x5 : Int32} {μ : gs_M}  (hD : B_X11_agreesWithLogs_41 q13 x3 x4 x5 μ = some (r, μ2)) : WJ p l e R s m args below meth c 0 0 (MQ below (gs_Q ad g tyc (some (.int r)) μ2) args s 0 0 (gs_A ad)) ad g tyc 6 41 [.ref 0, gs_J, gs_J, .int x3, .int x4, .int x5] [] μ := by
  unfold B_X11_agreesWithLogs_41 at hD
  refine r_aload_n hK d_X11_agreesWithLogs_41 rfl rfl ?_
  refine r_getR hK d_X11_agreesWithLogs_42 fl_RX11_76_10 rfl kd_0 ?_
  refine r_ref (b := 56) R0_0_11 ?_
  obtain ⟨v3, u2, e1, hD⟩ := bd_e hD
  refine r_callV (As := []) (st := []) (stk2 := [.int v3]) hK (C_X10_lean kd_56 e1) d_X11_agreesWithLogs_45 mf_X10_lean ml_RX11_256 im_X10_lean rfl se_9_RX10_X10_lean kd_56 rfl (Nat.le_of_ble_eq_true rfl) (by decide) ⟨Nat.zero_le _, Nat.zero_le _⟩ rfl rfl ?_
  refine r_aload_n hK d_X11_agreesWithLogs_48 rfl rfl ?_
  refine r_getR hK d_X11_agreesWithLogs_49 fl_RX11_89_10 rfl kd_0 ?_
  refine r_ref (b := 72) R0_0_14 ?_
  refine r_iload hK d_X11_agreesWithLogs_52 rfl ?_
  obtain ⟨h4, hD⟩ := ck_e hD
  refine r_iald hK d_X11_agreesWithLogs_54 kd_72 ln_72 (inb_in h4) ?_
  refine r_isub hK d_X11_agreesWithLogs_55 ?_
  refine r_mabs hK d_X11_agreesWithLogs_56 mm_RX11_286 ms_abs mi_0 mc_abs (Nat.le_of_ble_eq_true rfl) (by decide) ⟨Nat.zero_le _, Nat.zero_le _⟩ ?_
  refine r_lti hD (fun v5 hD => ?_)
  refine r_iload hK d_X11_agreesWithLogs_59 rfl ?_
  refine r_icmp_le (tgt := 66) hK d_X11_agreesWithLogs_61 (by decide) (fun h6 => ?_) (fun h6 => ?_)
  · have hD := if_t hD h6
    refine r_iinc hK d_X11_agreesWithLogs_66 rfl (v := x5 + (1 : Int32)) (by rw [ci_1]) (by decide) (ls2 := [.ref 0, gs_J, gs_J, .int x3, .int x4, .int (x5 + (1 : Int32))]) rfl ?_
    refine r_goto (tgt := 13) hK d_X11_agreesWithLogs_69 (by decide) ?_
    exact hq13 _ _ _ _  hD
  · have hD := if_f hD h6
    refine r_iconst hK d_X11_agreesWithLogs_64 ci_0 ?_
    cases hD
    exact r_zret hK (Or.inl rfl) d_X11_agreesWithLogs_65
set_option maxRecDepth 20000 in
theorem To_X11_agreesWithLogs_13  (hK : KC p R s m args meth c ad g tyc RX11 cX11_agreesWithLogs 6 (some .boolean) 6) {r : Int32} {μ2 : gs_M} {q13 : Int32 → Int32 → Int32 → gs_M → Option (Int32 × gs_M)} (hq13 : ∀ (x3 : Int32) (x4 : Int32) (x5 : Int32) (μ : gs_M), q13 x3 x4 x5 μ = some (r, μ2) → WJ p l e R s m args below meth c 0 0 (MQ below (gs_Q ad g tyc (some (.int r)) μ2) args s 0 0 (gs_A ad)) ad g tyc 6 13 [.ref 0, gs_J, gs_J, .int x3, .int x4, .int x5] [] μ) {x3 : Int32} {x4 : Int32} {x5 : Int32} {μ : gs_M}  (hD : Bo_X11_agreesWithLogs_13 q13 x3 x4 x5 μ = some (r, μ2)) : WJ p l e R s m args below meth c 0 0 (MQ below (gs_Q ad g tyc (some (.int r)) μ2) args s 0 0 (gs_A ad)) ad g tyc 6 13 [.ref 0, gs_J, gs_J, .int x3, .int x4, .int x5] [] μ := by
  unfold Bo_X11_agreesWithLogs_13 at hD
  refine r_iload hK d_X11_agreesWithLogs_13 rfl ?_
  refine r_aload_n hK d_X11_agreesWithLogs_15 rfl rfl ?_
  refine r_getI hK d_X11_agreesWithLogs_16 fl_RX11_93_10 rfl kd_0 ?_
  refine r_icmp_ge (tgt := 72) hK d_X11_agreesWithLogs_19 (by decide) (fun h1 => ?_) (fun h1 => ?_)
  · have hD := if_t hD h1
    refine r_iconst hK d_X11_agreesWithLogs_72 ci_1 ?_
    cases hD
    exact r_zret hK (Or.inr rfl) d_X11_agreesWithLogs_73
  · have hD := if_f hD h1
    refine r_aload_n hK d_X11_agreesWithLogs_22 rfl rfl ?_
    refine r_getR hK d_X11_agreesWithLogs_23 fl_RX11_76_10 rfl kd_0 ?_
    refine r_ref (b := 56) R0_0_11 ?_
    refine r_getZ hK d_X11_agreesWithLogs_26 fl_RX11_262_9 rfl kd_56 ?_
    refine r_if_ne (tgt := 41) hK d_X11_agreesWithLogs_29 (by decide) (fun h2 => ?_) (fun h2 => ?_)
    · have hD := if_f hD h2
      exact T_X11_agreesWithLogs_41 hK hq13  hD
    · have hD := if_t hD h2
      refine r_aload_n hK d_X11_agreesWithLogs_32 rfl rfl ?_
      refine r_getR hK d_X11_agreesWithLogs_33 fl_RX11_76_10 rfl kd_0 ?_
      refine r_ref (b := 56) R0_0_11 ?_
      refine r_iload_n hK d_X11_agreesWithLogs_36 rfl rfl ?_
      obtain ⟨v5, u4, e3, hD⟩ := bd_e hD
      refine r_callV (As := [.int x3]) (st := []) (stk2 := [.int v5]) hK (C_X10_rollBy kd_56 e3) d_X11_agreesWithLogs_37 mf_X10_rollBy ml_RX11_210 im_X10_rollBy rfl se_9_RX10_X10_rollBy kd_56 rfl (Nat.le_of_ble_eq_true rfl) (by decide) ⟨Nat.zero_le _, Nat.zero_le _⟩ rfl rfl ?_
      refine r_pop hK d_X11_agreesWithLogs_40 rfl ?_
      exact T_X11_agreesWithLogs_41 hK hq13  hD
set_option maxRecDepth 20000 in
theorem TL_X11_agreesWithLogs_13  (hK : KC p R s m args meth c ad g tyc RX11 cX11_agreesWithLogs 6 (some .boolean) 6) {r : Int32} {μ2 : gs_M}   : ∀ (n : Nat) (x3 : Int32) (x4 : Int32) (x5 : Int32) (μ : gs_M), L_X11_agreesWithLogs_13  n x3 x4 x5 μ = some (r, μ2) → WJ p l e R s m args below meth c 0 0 (MQ below (gs_Q ad g tyc (some (.int r)) μ2) args s 0 0 (gs_A ad)) ad g tyc 6 13 [.ref 0, gs_J, gs_J, .int x3, .int x4, .int x5] [] μ := by
  intro n
  induction n with
  | zero => intro x3 x4 x5 μ  hD; cases hD
  | succ n ih => intro x3 x4 x5 μ  hD; exact To_X11_agreesWithLogs_13 hK  ih  hD
set_option maxRecDepth 20000 in
theorem C_X11_agreesWithLogs  {x1 : Int32} {x2 : Int32} {x3 : Int32} {x4 : Int32} {μ : gs_M} {r : Int32} {μ2 : gs_M}  (hD : D_X11_agreesWithLogs x1 x2 x3 x4 μ = some (r, μ2)) : CALL yX11_agreesWithLogs cX11_agreesWithLogs 6 (some .boolean) 6 [.ref 0, .int x1, .int x2, .int x3, .int x4] μ (some (.int r)) μ2 := by
  unfold D_X11_agreesWithLogs at hD
  refine gs_enter mf_X11_agreesWithLogs (Nat.le_of_ble_eq_true rfl) (ls := [.ref 0, .int x1, .int x2, .int x3, .int x4, gs_J]) rfl (fun p l e R s m args below meth c ad g tyc hK => ?_)
  have hK : KC p R s m args meth c ad g tyc RX11 cX11_agreesWithLogs 6 (some .boolean) 6 := hK
  refine r_aload_n hK d_X11_agreesWithLogs_0 rfl rfl ?_
  refine r_aload_n hK d_X11_agreesWithLogs_1 rfl rfl ?_
  refine r_getR hK d_X11_agreesWithLogs_2 fl_RX11_76_10 rfl kd_0 ?_
  refine r_ref (b := 56) R0_0_11 ?_
  refine r_iload_n hK d_X11_agreesWithLogs_5 rfl rfl ?_
  refine r_iload_n hK d_X11_agreesWithLogs_6 rfl rfl ?_
  obtain ⟨u2, e1, hD⟩ := bd0_e hD
  refine r_callV (As := [.ref 56, .int x1, .int x2]) (st := []) (stk2 := []) hK (C_X11_lay kd_56 e1) d_X11_agreesWithLogs_7 mf_X11_lay ml_RX11_170 im_X11_lay rfl se_10_RX11_X11_lay kd_0 rfl (Nat.le_of_ble_eq_true rfl) (by decide) ⟨Nat.zero_le _, Nat.zero_le _⟩ rfl rfl ?_
  refine r_iconst hK d_X11_agreesWithLogs_10 ci_0 ?_
  refine r_istore hK d_X11_agreesWithLogs_11 (by decide) (ls2 := [.ref 0, .int x1, .int x2, .int x3, .int x4, .int (0 : Int32)]) rfl ?_
  refine r_junk [true, false, false, true, true, true] (ls2 := [.ref 0, gs_J, gs_J, .int x3, .int x4, .int (0 : Int32)]) rfl ?_
  exact TL_X11_agreesWithLogs_13 hK  _ _ _ _ _  hD
end S_X11_agreesWithLogs
theorem d_X11_agree_0 : gd cX11_agree 0 (.aload_n 0) 1 1 := ⟨by decide +kernel, rfl⟩
theorem d_X11_agree_1 : gd cX11_agree 1 (.getfield 41) 3 4 := ⟨by decide +kernel, rfl⟩
theorem d_X11_agree_4 : gd cX11_agree 4 (.iload_n 1) 1 5 := ⟨by decide +kernel, rfl⟩
theorem d_X11_agree_5 : gd cX11_agree 5 (.invokevirtual 143) 3 8 := ⟨by decide +kernel, rfl⟩
theorem d_X11_agree_8 : gd cX11_agree 8 (.ifCond .eq 23) 3 11 := ⟨by decide +kernel, rfl⟩
theorem d_X11_agree_11 : gd cX11_agree 11 (.iload_n 2) 1 12 := ⟨by decide +kernel, rfl⟩
theorem d_X11_agree_12 : gd cX11_agree 12 (.iconst 0) 1 13 := ⟨by decide +kernel, rfl⟩
theorem d_X11_agree_13 : gd cX11_agree 13 (.bipush 40) 2 15 := ⟨by decide +kernel, rfl⟩
theorem d_X11_agree_15 : gd cX11_agree 15 (.invokestatic 123) 3 18 := ⟨by decide +kernel, rfl⟩
theorem d_X11_agree_18 : gd cX11_agree 18 (.ifCond .eq 13) 3 21 := ⟨by decide +kernel, rfl⟩
theorem d_X11_agree_21 : gd cX11_agree 21 (.iload_n 3) 1 22 := ⟨by decide +kernel, rfl⟩
theorem d_X11_agree_22 : gd cX11_agree 22 (.iconst 0) 1 23 := ⟨by decide +kernel, rfl⟩
theorem d_X11_agree_23 : gd cX11_agree 23 (.bipush 60) 2 25 := ⟨by decide +kernel, rfl⟩
theorem d_X11_agree_25 : gd cX11_agree 25 (.invokestatic 123) 3 28 := ⟨by decide +kernel, rfl⟩
theorem d_X11_agree_28 : gd cX11_agree 28 (.ifCond .ne 5) 3 31 := ⟨by decide +kernel, rfl⟩
theorem d_X11_agree_31 : gd cX11_agree 31 (.iconst (-1)) 1 32 := ⟨by decide +kernel, rfl⟩
theorem d_X11_agree_32 : gd cX11_agree 32 .ireturn 1 33 := ⟨by decide +kernel, rfl⟩
theorem d_X11_agree_33 : gd cX11_agree 33 (.iconst 0) 1 34 := ⟨by decide +kernel, rfl⟩
theorem d_X11_agree_34 : gd cX11_agree 34 (.istore 4) 2 36 := ⟨by decide +kernel, rfl⟩
theorem d_X11_agree_36 : gd cX11_agree 36 (.iconst 0) 1 37 := ⟨by decide +kernel, rfl⟩
theorem d_X11_agree_37 : gd cX11_agree 37 (.istore 5) 2 39 := ⟨by decide +kernel, rfl⟩
theorem d_X11_agree_39 : gd cX11_agree 39 (.iload 5) 2 41 := ⟨by decide +kernel, rfl⟩
theorem d_X11_agree_41 : gd cX11_agree 41 (.aload_n 0) 1 42 := ⟨by decide +kernel, rfl⟩
theorem d_X11_agree_42 : gd cX11_agree 42 (.getfield 44) 3 45 := ⟨by decide +kernel, rfl⟩
theorem d_X11_agree_45 : gd cX11_agree 45 (.getfield 310) 3 48 := ⟨by decide +kernel, rfl⟩
theorem d_X11_agree_48 : gd cX11_agree 48 (.if_icmp .ge 40) 3 51 := ⟨by decide +kernel, rfl⟩
theorem d_X11_agree_51 : gd cX11_agree 51 (.aload_n 0) 1 52 := ⟨by decide +kernel, rfl⟩
theorem d_X11_agree_52 : gd cX11_agree 52 (.iload_n 1) 1 53 := ⟨by decide +kernel, rfl⟩
theorem d_X11_agree_53 : gd cX11_agree 53 (.iload 5) 2 55 := ⟨by decide +kernel, rfl⟩
theorem d_X11_agree_55 : gd cX11_agree 55 (.invokevirtual 166) 3 58 := ⟨by decide +kernel, rfl⟩
theorem d_X11_agree_58 : gd cX11_agree 58 (.ifCond .eq 24) 3 61 := ⟨by decide +kernel, rfl⟩
theorem d_X11_agree_61 : gd cX11_agree 61 (.aload_n 0) 1 62 := ⟨by decide +kernel, rfl⟩
theorem d_X11_agree_62 : gd cX11_agree 62 (.iload_n 1) 1 63 := ⟨by decide +kernel, rfl⟩
theorem d_X11_agree_63 : gd cX11_agree 63 (.iload 5) 2 65 := ⟨by decide +kernel, rfl⟩
theorem d_X11_agree_65 : gd cX11_agree 65 (.iload_n 2) 1 66 := ⟨by decide +kernel, rfl⟩
theorem d_X11_agree_66 : gd cX11_agree 66 (.iload_n 3) 1 67 := ⟨by decide +kernel, rfl⟩
theorem d_X11_agree_67 : gd cX11_agree 67 (.invokevirtual 314) 3 70 := ⟨by decide +kernel, rfl⟩
theorem d_X11_agree_70 : gd cX11_agree 70 (.ifCond .eq 12) 3 73 := ⟨by decide +kernel, rfl⟩
theorem d_X11_agree_73 : gd cX11_agree 73 (.iload 4) 2 75 := ⟨by decide +kernel, rfl⟩
theorem d_X11_agree_75 : gd cX11_agree 75 (.iconst 1) 1 76 := ⟨by decide +kernel, rfl⟩
theorem d_X11_agree_76 : gd cX11_agree 76 (.iload 5) 2 78 := ⟨by decide +kernel, rfl⟩
theorem d_X11_agree_78 : gd cX11_agree 78 .ishl 1 79 := ⟨by decide +kernel, rfl⟩
theorem d_X11_agree_79 : gd cX11_agree 79 .ior 1 80 := ⟨by decide +kernel, rfl⟩
theorem d_X11_agree_80 : gd cX11_agree 80 (.istore 4) 2 82 := ⟨by decide +kernel, rfl⟩
theorem d_X11_agree_82 : gd cX11_agree 82 (.iinc 5 1) 3 85 := ⟨by decide +kernel, rfl⟩
theorem d_X11_agree_85 : gd cX11_agree 85 (.goto (-46)) 3 88 := ⟨by decide +kernel, rfl⟩
theorem d_X11_agree_88 : gd cX11_agree 88 (.iload 4) 2 90 := ⟨by decide +kernel, rfl⟩
theorem d_X11_agree_90 : gd cX11_agree 90 .ireturn 1 91 := ⟨by decide +kernel, rfl⟩
def Bo_X11_agree_39 (q39 : Int32 → Int32 → Int32 → Int32 → Int32 → gs_M → Option (Int32 × gs_M)) (x1 : Int32) (x2 : Int32) (x3 : Int32) (x4 : Int32) (x5 : Int32) (μ : gs_M) : Option (Int32 × gs_M) :=
  if (gI μ 13 3) ≤ x5 then (some (x4, μ)) else (bd (D_X11_canLoad x1 x5 μ) (fun v4 u3 => if v4 = 0 then (q39 x1 x2 x3 x4 (x5 + (1 : Int32)) u3) else (bd (D_X11_agreesWithLogs x1 x5 x2 x3 u3) (fun v8 u7 => if v8 = 0 then (q39 x1 x2 x3 x4 (x5 + (1 : Int32)) u7) else (lt1 (x4 ||| ((1 : Int32) <<< (x5 &&& 31))) (fun v10 => q39 x1 x2 x3 v10 (x5 + (1 : Int32)) u7))))))
def L_X11_agree_39  : Nat → Int32 → Int32 → Int32 → Int32 → Int32 → gs_M → Option (Int32 × gs_M)
  | 0 => fun _ _ _ _ _ _ => none
  | n + 1 => fun x1 x2 x3 x4 x5 μ => Bo_X11_agree_39  (L_X11_agree_39  n) x1 x2 x3 x4 x5 μ
def D_X11_agree (x1 : Int32) (x2 : Int32) (x3 : Int32) (μ : gs_M) : Option (Int32 × gs_M) :=
  bd (D_X9_has 10 x1 μ) (fun v3 u2 => if v3 = 0 then (some ((-1 : Int32), u2)) else (bd (D_X11_within x2 (0 : Int32) (40 : Int32) u2) (fun v7 u6 => if v7 = 0 then (some ((-1 : Int32), u6)) else (bd (D_X11_within x3 (0 : Int32) (60 : Int32) u6) (fun v11 u10 => if v11 = 0 then (some ((-1 : Int32), u10)) else (L_X11_agree_39 4096 x1 x2 x3 (0 : Int32) (0 : Int32) u10))))))
section S_X11_agree
variable {p : Program} {l : Launch} {e : Env} {R : Room} {s : State} {m : MethodId} {args : Array Value} {below : List Frame} {meth : Method} {c : Code} {ad : Nat → Nat} {g : va_G} {tyc : Nat → ClassId}
set_option maxRecDepth 20000 in
theorem To_X11_agree_39  (hK : KC p R s m args meth c ad g tyc RX11 cX11_agree 6 (some .int) 7) {r : Int32} {μ2 : gs_M} {q39 : Int32 → Int32 → Int32 → Int32 → Int32 → gs_M → Option (Int32 × gs_M)} (hq39 : ∀ (x1 : Int32) (x2 : Int32) (x3 : Int32) (x4 : Int32) (x5 : Int32) (μ : gs_M), q39 x1 x2 x3 x4 x5 μ = some (r, μ2) → WJ p l e R s m args below meth c 0 0 (MQ below (gs_Q ad g tyc (some (.int r)) μ2) args s 0 0 (gs_A ad)) ad g tyc 6 39 [.ref 0, .int x1, .int x2, .int x3, .int x4, .int x5] [] μ) {x1 : Int32} {x2 : Int32} {x3 : Int32} {x4 : Int32} {x5 : Int32} {μ : gs_M}  (hD : Bo_X11_agree_39 q39 x1 x2 x3 x4 x5 μ = some (r, μ2)) : WJ p l e R s m args below meth c 0 0 (MQ below (gs_Q ad g tyc (some (.int r)) μ2) args s 0 0 (gs_A ad)) ad g tyc 6 39 [.ref 0, .int x1, .int x2, .int x3, .int x4, .int x5] [] μ := by
  unfold Bo_X11_agree_39 at hD
  refine r_iload hK d_X11_agree_39 rfl ?_
  refine r_aload_n hK d_X11_agree_41 rfl rfl ?_
  refine r_getR hK d_X11_agree_42 fl_RX11_44_10 rfl kd_0 ?_
  refine r_ref (b := 13) R0_0_5 ?_
  refine r_getI hK d_X11_agree_45 fl_RX11_310_8 rfl kd_13 ?_
  refine r_icmp_ge (tgt := 88) hK d_X11_agree_48 (by decide) (fun h1 => ?_) (fun h1 => ?_)
  · have hD := if_t hD h1
    refine r_iload hK d_X11_agree_88 rfl ?_
    cases hD
    exact r_iret hK d_X11_agree_90
  · have hD := if_f hD h1
    refine r_aload_n hK d_X11_agree_51 rfl rfl ?_
    refine r_iload_n hK d_X11_agree_52 rfl rfl ?_
    refine r_iload hK d_X11_agree_53 rfl ?_
    obtain ⟨v4, u3, e2, hD⟩ := bd_e hD
    refine r_callV (As := [.int x1, .int x5]) (st := []) (stk2 := [.int v4]) hK (C_X11_canLoad  e2) d_X11_agree_55 mf_X11_canLoad ml_RX11_166 im_X11_canLoad rfl se_10_RX11_X11_canLoad kd_0 rfl (Nat.le_of_ble_eq_true rfl) (by decide) ⟨Nat.zero_le _, Nat.zero_le _⟩ rfl rfl ?_
    refine r_if_eq (tgt := 82) hK d_X11_agree_58 (by decide) (fun h5 => ?_) (fun h5 => ?_)
    · have hD := if_t hD h5
      refine r_iinc hK d_X11_agree_82 rfl (v := x5 + (1 : Int32)) (by rw [ci_1]) (by decide) (ls2 := [.ref 0, .int x1, .int x2, .int x3, .int x4, .int (x5 + (1 : Int32))]) rfl ?_
      refine r_goto (tgt := 39) hK d_X11_agree_85 (by decide) ?_
      exact hq39 _ _ _ _ _ _  hD
    · have hD := if_f hD h5
      refine r_aload_n hK d_X11_agree_61 rfl rfl ?_
      refine r_iload_n hK d_X11_agree_62 rfl rfl ?_
      refine r_iload hK d_X11_agree_63 rfl ?_
      refine r_iload_n hK d_X11_agree_65 rfl rfl ?_
      refine r_iload_n hK d_X11_agree_66 rfl rfl ?_
      obtain ⟨v8, u7, e6, hD⟩ := bd_e hD
      refine r_callV (As := [.int x1, .int x5, .int x2, .int x3]) (st := []) (stk2 := [.int v8]) hK (C_X11_agreesWithLogs  e6) d_X11_agree_67 mf_X11_agreesWithLogs ml_RX11_314 im_X11_agreesWithLogs rfl se_10_RX11_X11_agreesWithLogs kd_0 rfl (Nat.le_of_ble_eq_true rfl) (by decide) ⟨Nat.zero_le _, Nat.zero_le _⟩ rfl rfl ?_
      refine r_if_eq (tgt := 82) hK d_X11_agree_70 (by decide) (fun h9 => ?_) (fun h9 => ?_)
      · have hD := if_t hD h9
        refine r_iinc hK d_X11_agree_82 rfl (v := x5 + (1 : Int32)) (by rw [ci_1]) (by decide) (ls2 := [.ref 0, .int x1, .int x2, .int x3, .int x4, .int (x5 + (1 : Int32))]) rfl ?_
        refine r_goto (tgt := 39) hK d_X11_agree_85 (by decide) ?_
        exact hq39 _ _ _ _ _ _  hD
      · have hD := if_f hD h9
        refine r_iload hK d_X11_agree_73 rfl ?_
        refine r_iconst hK d_X11_agree_75 ci_1 ?_
        refine r_iload hK d_X11_agree_76 rfl ?_
        refine r_ishl hK d_X11_agree_78 ?_
        refine r_ior hK d_X11_agree_79 ?_
        refine r_lti hD (fun v10 hD => ?_)
        refine r_istore hK d_X11_agree_80 (by decide) (ls2 := [.ref 0, .int x1, .int x2, .int x3, .int v10, .int x5]) rfl ?_
        refine r_iinc hK d_X11_agree_82 rfl (v := x5 + (1 : Int32)) (by rw [ci_1]) (by decide) (ls2 := [.ref 0, .int x1, .int x2, .int x3, .int v10, .int (x5 + (1 : Int32))]) rfl ?_
        refine r_goto (tgt := 39) hK d_X11_agree_85 (by decide) ?_
        exact hq39 _ _ _ _ _ _  hD
set_option maxRecDepth 20000 in
theorem TL_X11_agree_39  (hK : KC p R s m args meth c ad g tyc RX11 cX11_agree 6 (some .int) 7) {r : Int32} {μ2 : gs_M}   : ∀ (n : Nat) (x1 : Int32) (x2 : Int32) (x3 : Int32) (x4 : Int32) (x5 : Int32) (μ : gs_M), L_X11_agree_39  n x1 x2 x3 x4 x5 μ = some (r, μ2) → WJ p l e R s m args below meth c 0 0 (MQ below (gs_Q ad g tyc (some (.int r)) μ2) args s 0 0 (gs_A ad)) ad g tyc 6 39 [.ref 0, .int x1, .int x2, .int x3, .int x4, .int x5] [] μ := by
  intro n
  induction n with
  | zero => intro x1 x2 x3 x4 x5 μ  hD; cases hD
  | succ n ih => intro x1 x2 x3 x4 x5 μ  hD; exact To_X11_agree_39 hK  ih  hD
set_option maxRecDepth 20000 in
theorem C_X11_agree  {x1 : Int32} {x2 : Int32} {x3 : Int32} {μ : gs_M} {r : Int32} {μ2 : gs_M}  (hD : D_X11_agree x1 x2 x3 μ = some (r, μ2)) : CALL yX11_agree cX11_agree 6 (some .int) 7 [.ref 0, .int x1, .int x2, .int x3] μ (some (.int r)) μ2 := by
  unfold D_X11_agree at hD
  refine gs_enter mf_X11_agree (Nat.le_of_ble_eq_true rfl) (ls := [.ref 0, .int x1, .int x2, .int x3, gs_J, gs_J]) rfl (fun p l e R s m args below meth c ad g tyc hK => ?_)
  have hK : KC p R s m args meth c ad g tyc RX11 cX11_agree 6 (some .int) 7 := hK
  refine r_aload_n hK d_X11_agree_0 rfl rfl ?_
  refine r_getR hK d_X11_agree_1 fl_RX11_41_10 rfl kd_0 ?_
  refine r_ref (b := 10) R0_0_4 ?_
  refine r_iload_n hK d_X11_agree_4 rfl rfl ?_
  obtain ⟨v3, u2, e1, hD⟩ := bd_e hD
  refine r_callV (As := [.int x1]) (st := []) (stk2 := [.int v3]) hK (C_X9_has kd_10 e1) d_X11_agree_5 mf_X9_has ml_RX11_143 im_X9_has rfl se_8_RX9_X9_has kd_10 rfl (Nat.le_of_ble_eq_true rfl) (by decide) ⟨Nat.zero_le _, Nat.zero_le _⟩ rfl rfl ?_
  refine r_if_eq (tgt := 31) hK d_X11_agree_8 (by decide) (fun h4 => ?_) (fun h4 => ?_)
  · have hD := if_t hD h4
    refine r_iconst hK d_X11_agree_31 ci_m1 ?_
    cases hD
    exact r_iret hK d_X11_agree_32
  · have hD := if_f hD h4
    refine r_iload_n hK d_X11_agree_11 rfl rfl ?_
    refine r_iconst hK d_X11_agree_12 ci_0 ?_
    refine r_bipush hK d_X11_agree_13 cb_40 ?_
    obtain ⟨v7, u6, e5, hD⟩ := bd_e hD
    refine r_callS (As := [.int x2, .int (0 : Int32), .int (40 : Int32)]) (st := []) (stk2 := [.int v7]) hK (C_X11_within  e5) d_X11_agree_15 mf_X11_within ml_RX11_123 ss_X11_within rfl (Nat.le_of_ble_eq_true rfl) (by decide) ⟨Nat.zero_le _, Nat.zero_le _⟩ rfl rfl ?_
    refine r_if_eq (tgt := 31) hK d_X11_agree_18 (by decide) (fun h8 => ?_) (fun h8 => ?_)
    · have hD := if_t hD h8
      refine r_iconst hK d_X11_agree_31 ci_m1 ?_
      cases hD
      exact r_iret hK d_X11_agree_32
    · have hD := if_f hD h8
      refine r_iload_n hK d_X11_agree_21 rfl rfl ?_
      refine r_iconst hK d_X11_agree_22 ci_0 ?_
      refine r_bipush hK d_X11_agree_23 cb_60 ?_
      obtain ⟨v11, u10, e9, hD⟩ := bd_e hD
      refine r_callS (As := [.int x3, .int (0 : Int32), .int (60 : Int32)]) (st := []) (stk2 := [.int v11]) hK (C_X11_within  e9) d_X11_agree_25 mf_X11_within ml_RX11_123 ss_X11_within rfl (Nat.le_of_ble_eq_true rfl) (by decide) ⟨Nat.zero_le _, Nat.zero_le _⟩ rfl rfl ?_
      refine r_if_ne (tgt := 33) hK d_X11_agree_28 (by decide) (fun h12 => ?_) (fun h12 => ?_)
      · have hD := if_f hD h12
        refine r_iconst hK d_X11_agree_33 ci_0 ?_
        refine r_istore hK d_X11_agree_34 (by decide) (ls2 := [.ref 0, .int x1, .int x2, .int x3, .int (0 : Int32), gs_J]) rfl ?_
        refine r_iconst hK d_X11_agree_36 ci_0 ?_
        refine r_istore hK d_X11_agree_37 (by decide) (ls2 := [.ref 0, .int x1, .int x2, .int x3, .int (0 : Int32), .int (0 : Int32)]) rfl ?_
        exact TL_X11_agree_39 hK  _ _ _ _ _ _ _  hD
      · have hD := if_t hD h12
        refine r_iconst hK d_X11_agree_31 ci_m1 ?_
        cases hD
        exact r_iret hK d_X11_agree_32
end S_X11_agree
theorem d_X11_heap_0 : gd cX11_heap 0 (.iload_n 1) 1 1 := ⟨by decide +kernel, rfl⟩
theorem d_X11_heap_1 : gd cX11_heap 1 (.iconst 0) 1 2 := ⟨by decide +kernel, rfl⟩
theorem d_X11_heap_2 : gd cX11_heap 2 (.bipush 99) 2 4 := ⟨by decide +kernel, rfl⟩
theorem d_X11_heap_4 : gd cX11_heap 4 (.invokestatic 123) 3 7 := ⟨by decide +kernel, rfl⟩
theorem d_X11_heap_7 : gd cX11_heap 7 (.ifCond .eq 14) 3 10 := ⟨by decide +kernel, rfl⟩
theorem d_X11_heap_10 : gd cX11_heap 10 (.aload_n 0) 1 11 := ⟨by decide +kernel, rfl⟩
theorem d_X11_heap_11 : gd cX11_heap 11 (.getfield 100) 3 14 := ⟨by decide +kernel, rfl⟩
theorem d_X11_heap_14 : gd cX11_heap 14 (.iload_n 1) 1 15 := ⟨by decide +kernel, rfl⟩
theorem d_X11_heap_15 : gd cX11_heap 15 (.invokevirtual 318) 3 18 := ⟨by decide +kernel, rfl⟩
theorem d_X11_heap_18 : gd cX11_heap 18 (.goto 4) 3 21 := ⟨by decide +kernel, rfl⟩
theorem d_X11_heap_21 : gd cX11_heap 21 (.iconst (-1)) 1 22 := ⟨by decide +kernel, rfl⟩
theorem d_X11_heap_22 : gd cX11_heap 22 .ireturn 1 23 := ⟨by decide +kernel, rfl⟩
def D_X11_heap (x1 : Int32) (μ : gs_M) : Option (Int32 × gs_M) :=
  bd (D_X11_within x1 (0 : Int32) (99 : Int32) μ) (fun v3 u2 => if v3 = 0 then (some ((-1 : Int32), u2)) else (bd (D_X0_keep x1 u2) (fun v7 u6 => some (v7, u6))))
section S_X11_heap
variable {p : Program} {l : Launch} {e : Env} {R : Room} {s : State} {m : MethodId} {args : Array Value} {below : List Frame} {meth : Method} {c : Code} {ad : Nat → Nat} {g : va_G} {tyc : Nat → ClassId}
set_option maxRecDepth 20000 in
theorem C_X11_heap  {x1 : Int32} {μ : gs_M} {r : Int32} {μ2 : gs_M}  (hD : D_X11_heap x1 μ = some (r, μ2)) : CALL yX11_heap cX11_heap 2 (some .int) 1 [.ref 0, .int x1] μ (some (.int r)) μ2 := by
  unfold D_X11_heap at hD
  refine gs_enter mf_X11_heap (Nat.le_of_ble_eq_true rfl) (ls := [.ref 0, .int x1]) rfl (fun p l e R s m args below meth c ad g tyc hK => ?_)
  have hK : KC p R s m args meth c ad g tyc RX11 cX11_heap 2 (some .int) 1 := hK
  refine r_iload_n hK d_X11_heap_0 rfl rfl ?_
  refine r_iconst hK d_X11_heap_1 ci_0 ?_
  refine r_bipush hK d_X11_heap_2 cb_99 ?_
  obtain ⟨v3, u2, e1, hD⟩ := bd_e hD
  refine r_callS (As := [.int x1, .int (0 : Int32), .int (99 : Int32)]) (st := []) (stk2 := [.int v3]) hK (C_X11_within  e1) d_X11_heap_4 mf_X11_within ml_RX11_123 ss_X11_within rfl (Nat.le_of_ble_eq_true rfl) (by decide) ⟨Nat.zero_le _, Nat.zero_le _⟩ rfl rfl ?_
  refine r_if_eq (tgt := 21) hK d_X11_heap_7 (by decide) (fun h4 => ?_) (fun h4 => ?_)
  · have hD := if_t hD h4
    refine r_iconst hK d_X11_heap_21 ci_m1 ?_
    cases hD
    exact r_iret hK d_X11_heap_22
  · have hD := if_f hD h4
    refine r_aload_n hK d_X11_heap_10 rfl rfl ?_
    refine r_getR hK d_X11_heap_11 fl_RX11_100_10 rfl kd_0 ?_
    refine r_ref (b := 73) R0_0_16 ?_
    refine r_iload_n hK d_X11_heap_14 rfl rfl ?_
    obtain ⟨v7, u6, e5, hD⟩ := bd_e hD
    refine r_callV (As := [.int x1]) (st := []) (stk2 := [.int v7]) hK (C_X0_keep  e5) d_X11_heap_15 mf_X0_keep ml_RX11_318 im_X0_keep rfl se_0_RX0_X0_keep kd_73 rfl (Nat.le_of_ble_eq_true rfl) (by decide) ⟨Nat.zero_le _, Nat.zero_le _⟩ rfl rfl ?_
    refine r_goto (tgt := 22) hK d_X11_heap_18 (by decide) ?_
    cases hD
    exact r_iret hK d_X11_heap_22
end S_X11_heap
theorem d_X11_miss_0 : gd cX11_miss 0 (.aload_n 0) 1 1 := ⟨by decide +kernel, rfl⟩
theorem d_X11_miss_1 : gd cX11_miss 1 (.getfield 100) 3 4 := ⟨by decide +kernel, rfl⟩
theorem d_X11_miss_4 : gd cX11_miss 4 (.iload_n 1) 1 5 := ⟨by decide +kernel, rfl⟩
theorem d_X11_miss_5 : gd cX11_miss 5 (.iload_n 2) 1 6 := ⟨by decide +kernel, rfl⟩
theorem d_X11_miss_6 : gd cX11_miss 6 (.invokevirtual 320) 3 9 := ⟨by decide +kernel, rfl⟩
theorem d_X11_miss_9 : gd cX11_miss 9 .ireturn 1 10 := ⟨by decide +kernel, rfl⟩
def D_X11_miss (x1 : Int32) (x2 : Int32) (μ : gs_M) : Option (Int32 × gs_M) :=
  bd (D_X0_missParts x1 x2 μ) (fun v3 u2 => some (v3, u2))
section S_X11_miss
variable {p : Program} {l : Launch} {e : Env} {R : Room} {s : State} {m : MethodId} {args : Array Value} {below : List Frame} {meth : Method} {c : Code} {ad : Nat → Nat} {g : va_G} {tyc : Nat → ClassId}
set_option maxRecDepth 20000 in
theorem C_X11_miss  {x1 : Int32} {x2 : Int32} {μ : gs_M} {r : Int32} {μ2 : gs_M}  (hD : D_X11_miss x1 x2 μ = some (r, μ2)) : CALL yX11_miss cX11_miss 3 (some .int) 2 [.ref 0, .int x1, .int x2] μ (some (.int r)) μ2 := by
  unfold D_X11_miss at hD
  refine gs_enter mf_X11_miss (Nat.le_of_ble_eq_true rfl) (ls := [.ref 0, .int x1, .int x2]) rfl (fun p l e R s m args below meth c ad g tyc hK => ?_)
  have hK : KC p R s m args meth c ad g tyc RX11 cX11_miss 3 (some .int) 2 := hK
  refine r_aload_n hK d_X11_miss_0 rfl rfl ?_
  refine r_getR hK d_X11_miss_1 fl_RX11_100_10 rfl kd_0 ?_
  refine r_ref (b := 73) R0_0_16 ?_
  refine r_iload_n hK d_X11_miss_4 rfl rfl ?_
  refine r_iload_n hK d_X11_miss_5 rfl rfl ?_
  obtain ⟨v3, u2, e1, hD⟩ := bd_e hD
  refine r_callV (As := [.int x1, .int x2]) (st := []) (stk2 := [.int v3]) hK (C_X0_missParts  e1) d_X11_miss_6 mf_X0_missParts ml_RX11_320 im_X0_missParts rfl se_0_RX0_X0_missParts kd_73 rfl (Nat.le_of_ble_eq_true rfl) (by decide) ⟨Nat.zero_le _, Nat.zero_le _⟩ rfl rfl ?_
  cases hD
  exact r_iret hK d_X11_miss_9
end S_X11_miss
theorem d_X11_enough_0 : gd cX11_enough 0 (.iload_n 1) 1 1 := ⟨by decide +kernel, rfl⟩
theorem d_X11_enough_1 : gd cX11_enough 1 (.iconst 0) 1 2 := ⟨by decide +kernel, rfl⟩
theorem d_X11_enough_2 : gd cX11_enough 2 (.bipush 99) 2 4 := ⟨by decide +kernel, rfl⟩
theorem d_X11_enough_4 : gd cX11_enough 4 (.invokestatic 123) 3 7 := ⟨by decide +kernel, rfl⟩
theorem d_X11_enough_7 : gd cX11_enough 7 (.ifCond .eq 14) 3 10 := ⟨by decide +kernel, rfl⟩
theorem d_X11_enough_10 : gd cX11_enough 10 (.iload_n 2) 1 11 := ⟨by decide +kernel, rfl⟩
theorem d_X11_enough_11 : gd cX11_enough 11 (.iconst 0) 1 12 := ⟨by decide +kernel, rfl⟩
theorem d_X11_enough_12 : gd cX11_enough 12 (.ldc_w 323) 3 15 := ⟨by decide +kernel, rfl⟩
theorem d_X11_enough_15 : gd cX11_enough 15 (.invokestatic 123) 3 18 := ⟨by decide +kernel, rfl⟩
theorem d_X11_enough_18 : gd cX11_enough 18 (.ifCond .ne 5) 3 21 := ⟨by decide +kernel, rfl⟩
theorem d_X11_enough_21 : gd cX11_enough 21 (.iconst (-1)) 1 22 := ⟨by decide +kernel, rfl⟩
theorem d_X11_enough_22 : gd cX11_enough 22 .ireturn 1 23 := ⟨by decide +kernel, rfl⟩
theorem d_X11_enough_23 : gd cX11_enough 23 (.iconst 1) 1 24 := ⟨by decide +kernel, rfl⟩
theorem d_X11_enough_24 : gd cX11_enough 24 (.istore_n 3) 1 25 := ⟨by decide +kernel, rfl⟩
theorem d_X11_enough_25 : gd cX11_enough 25 (.iload_n 3) 1 26 := ⟨by decide +kernel, rfl⟩
theorem d_X11_enough_26 : gd cX11_enough 26 (.bipush 10) 2 28 := ⟨by decide +kernel, rfl⟩
theorem d_X11_enough_28 : gd cX11_enough 28 (.if_icmp .gt 35) 3 31 := ⟨by decide +kernel, rfl⟩
theorem d_X11_enough_31 : gd cX11_enough 31 (.iload_n 3) 1 32 := ⟨by decide +kernel, rfl⟩
theorem d_X11_enough_32 : gd cX11_enough 32 (.aload_n 0) 1 33 := ⟨by decide +kernel, rfl⟩
theorem d_X11_enough_33 : gd cX11_enough 33 (.getfield 100) 3 36 := ⟨by decide +kernel, rfl⟩
theorem d_X11_enough_36 : gd cX11_enough 36 (.getfield 324) 3 39 := ⟨by decide +kernel, rfl⟩
theorem d_X11_enough_39 : gd cX11_enough 39 (.if_icmp .gt 24) 3 42 := ⟨by decide +kernel, rfl⟩
theorem d_X11_enough_42 : gd cX11_enough 42 (.aload_n 0) 1 43 := ⟨by decide +kernel, rfl⟩
theorem d_X11_enough_43 : gd cX11_enough 43 (.getfield 100) 3 46 := ⟨by decide +kernel, rfl⟩
theorem d_X11_enough_46 : gd cX11_enough 46 (.iload_n 3) 1 47 := ⟨by decide +kernel, rfl⟩
theorem d_X11_enough_47 : gd cX11_enough 47 (.iload_n 1) 1 48 := ⟨by decide +kernel, rfl⟩
theorem d_X11_enough_48 : gd cX11_enough 48 (.invokevirtual 320) 3 51 := ⟨by decide +kernel, rfl⟩
theorem d_X11_enough_51 : gd cX11_enough 51 (.iload_n 2) 1 52 := ⟨by decide +kernel, rfl⟩
theorem d_X11_enough_52 : gd cX11_enough 52 (.if_icmp .gt 5) 3 55 := ⟨by decide +kernel, rfl⟩
theorem d_X11_enough_55 : gd cX11_enough 55 (.iload_n 3) 1 56 := ⟨by decide +kernel, rfl⟩
theorem d_X11_enough_56 : gd cX11_enough 56 .ireturn 1 57 := ⟨by decide +kernel, rfl⟩
theorem d_X11_enough_57 : gd cX11_enough 57 (.iinc 3 1) 3 60 := ⟨by decide +kernel, rfl⟩
theorem d_X11_enough_60 : gd cX11_enough 60 (.goto (-35)) 3 63 := ⟨by decide +kernel, rfl⟩
theorem d_X11_enough_63 : gd cX11_enough 63 (.iconst (-1)) 1 64 := ⟨by decide +kernel, rfl⟩
theorem d_X11_enough_64 : gd cX11_enough 64 .ireturn 1 65 := ⟨by decide +kernel, rfl⟩
def Bo_X11_enough_25 (q25 : Int32 → Int32 → Int32 → gs_M → Option (Int32 × gs_M)) (x1 : Int32) (x2 : Int32) (x3 : Int32) (μ : gs_M) : Option (Int32 × gs_M) :=
  if (10 : Int32) < x3 then (some ((-1 : Int32), μ)) else (if (gI μ 73 1) < x3 then (some ((-1 : Int32), μ)) else (bd (D_X0_missParts x3 x1 μ) (fun v5 u4 => if x2 < v5 then (q25 x1 x2 (x3 + (1 : Int32)) u4) else (some (x3, u4)))))
def L_X11_enough_25  : Nat → Int32 → Int32 → Int32 → gs_M → Option (Int32 × gs_M)
  | 0 => fun _ _ _ _ => none
  | n + 1 => fun x1 x2 x3 μ => Bo_X11_enough_25  (L_X11_enough_25  n) x1 x2 x3 μ
def D_X11_enough (x1 : Int32) (x2 : Int32) (μ : gs_M) : Option (Int32 × gs_M) :=
  bd (D_X11_within x1 (0 : Int32) (99 : Int32) μ) (fun v3 u2 => if v3 = 0 then (some ((-1 : Int32), u2)) else (bd (D_X11_within x2 (0 : Int32) (1000000 : Int32) u2) (fun v7 u6 => if v7 = 0 then (some ((-1 : Int32), u6)) else (L_X11_enough_25 4096 x1 x2 (1 : Int32) u6))))
section S_X11_enough
variable {p : Program} {l : Launch} {e : Env} {R : Room} {s : State} {m : MethodId} {args : Array Value} {below : List Frame} {meth : Method} {c : Code} {ad : Nat → Nat} {g : va_G} {tyc : Nat → ClassId}
set_option maxRecDepth 20000 in
theorem To_X11_enough_25  (hK : KC p R s m args meth c ad g tyc RX11 cX11_enough 4 (some .int) 2) {r : Int32} {μ2 : gs_M} {q25 : Int32 → Int32 → Int32 → gs_M → Option (Int32 × gs_M)} (hq25 : ∀ (x1 : Int32) (x2 : Int32) (x3 : Int32) (μ : gs_M), q25 x1 x2 x3 μ = some (r, μ2) → WJ p l e R s m args below meth c 0 0 (MQ below (gs_Q ad g tyc (some (.int r)) μ2) args s 0 0 (gs_A ad)) ad g tyc 4 25 [.ref 0, .int x1, .int x2, .int x3] [] μ) {x1 : Int32} {x2 : Int32} {x3 : Int32} {μ : gs_M}  (hD : Bo_X11_enough_25 q25 x1 x2 x3 μ = some (r, μ2)) : WJ p l e R s m args below meth c 0 0 (MQ below (gs_Q ad g tyc (some (.int r)) μ2) args s 0 0 (gs_A ad)) ad g tyc 4 25 [.ref 0, .int x1, .int x2, .int x3] [] μ := by
  unfold Bo_X11_enough_25 at hD
  refine r_iload_n hK d_X11_enough_25 rfl rfl ?_
  refine r_bipush hK d_X11_enough_26 cb_10 ?_
  refine r_icmp_gt (tgt := 63) hK d_X11_enough_28 (by decide) (fun h1 => ?_) (fun h1 => ?_)
  · have hD := if_t hD h1
    refine r_iconst hK d_X11_enough_63 ci_m1 ?_
    cases hD
    exact r_iret hK d_X11_enough_64
  · have hD := if_f hD h1
    refine r_iload_n hK d_X11_enough_31 rfl rfl ?_
    refine r_aload_n hK d_X11_enough_32 rfl rfl ?_
    refine r_getR hK d_X11_enough_33 fl_RX11_100_10 rfl kd_0 ?_
    refine r_ref (b := 73) R0_0_16 ?_
    refine r_getI hK d_X11_enough_36 fl_RX11_324_0 rfl kd_73 ?_
    refine r_icmp_gt (tgt := 63) hK d_X11_enough_39 (by decide) (fun h2 => ?_) (fun h2 => ?_)
    · have hD := if_t hD h2
      refine r_iconst hK d_X11_enough_63 ci_m1 ?_
      cases hD
      exact r_iret hK d_X11_enough_64
    · have hD := if_f hD h2
      refine r_aload_n hK d_X11_enough_42 rfl rfl ?_
      refine r_getR hK d_X11_enough_43 fl_RX11_100_10 rfl kd_0 ?_
      refine r_ref (b := 73) R0_0_16 ?_
      refine r_iload_n hK d_X11_enough_46 rfl rfl ?_
      refine r_iload_n hK d_X11_enough_47 rfl rfl ?_
      obtain ⟨v5, u4, e3, hD⟩ := bd_e hD
      refine r_callV (As := [.int x3, .int x1]) (st := []) (stk2 := [.int v5]) hK (C_X0_missParts  e3) d_X11_enough_48 mf_X0_missParts ml_RX11_320 im_X0_missParts rfl se_0_RX0_X0_missParts kd_73 rfl (Nat.le_of_ble_eq_true rfl) (by decide) ⟨Nat.zero_le _, Nat.zero_le _⟩ rfl rfl ?_
      refine r_iload_n hK d_X11_enough_51 rfl rfl ?_
      refine r_icmp_gt (tgt := 57) hK d_X11_enough_52 (by decide) (fun h6 => ?_) (fun h6 => ?_)
      · have hD := if_t hD h6
        refine r_iinc hK d_X11_enough_57 rfl (v := x3 + (1 : Int32)) (by rw [ci_1]) (by decide) (ls2 := [.ref 0, .int x1, .int x2, .int (x3 + (1 : Int32))]) rfl ?_
        refine r_goto (tgt := 25) hK d_X11_enough_60 (by decide) ?_
        exact hq25 _ _ _ _  hD
      · have hD := if_f hD h6
        refine r_iload_n hK d_X11_enough_55 rfl rfl ?_
        cases hD
        exact r_iret hK d_X11_enough_56
set_option maxRecDepth 20000 in
theorem TL_X11_enough_25  (hK : KC p R s m args meth c ad g tyc RX11 cX11_enough 4 (some .int) 2) {r : Int32} {μ2 : gs_M}   : ∀ (n : Nat) (x1 : Int32) (x2 : Int32) (x3 : Int32) (μ : gs_M), L_X11_enough_25  n x1 x2 x3 μ = some (r, μ2) → WJ p l e R s m args below meth c 0 0 (MQ below (gs_Q ad g tyc (some (.int r)) μ2) args s 0 0 (gs_A ad)) ad g tyc 4 25 [.ref 0, .int x1, .int x2, .int x3] [] μ := by
  intro n
  induction n with
  | zero => intro x1 x2 x3 μ  hD; cases hD
  | succ n ih => intro x1 x2 x3 μ  hD; exact To_X11_enough_25 hK  ih  hD
set_option maxRecDepth 20000 in
theorem C_X11_enough  {x1 : Int32} {x2 : Int32} {μ : gs_M} {r : Int32} {μ2 : gs_M}  (hD : D_X11_enough x1 x2 μ = some (r, μ2)) : CALL yX11_enough cX11_enough 4 (some .int) 2 [.ref 0, .int x1, .int x2] μ (some (.int r)) μ2 := by
  unfold D_X11_enough at hD
  refine gs_enter mf_X11_enough (Nat.le_of_ble_eq_true rfl) (ls := [.ref 0, .int x1, .int x2, gs_J]) rfl (fun p l e R s m args below meth c ad g tyc hK => ?_)
  have hK : KC p R s m args meth c ad g tyc RX11 cX11_enough 4 (some .int) 2 := hK
  refine r_iload_n hK d_X11_enough_0 rfl rfl ?_
  refine r_iconst hK d_X11_enough_1 ci_0 ?_
  refine r_bipush hK d_X11_enough_2 cb_99 ?_
  obtain ⟨v3, u2, e1, hD⟩ := bd_e hD
  refine r_callS (As := [.int x1, .int (0 : Int32), .int (99 : Int32)]) (st := []) (stk2 := [.int v3]) hK (C_X11_within  e1) d_X11_enough_4 mf_X11_within ml_RX11_123 ss_X11_within rfl (Nat.le_of_ble_eq_true rfl) (by decide) ⟨Nat.zero_le _, Nat.zero_le _⟩ rfl rfl ?_
  refine r_if_eq (tgt := 21) hK d_X11_enough_7 (by decide) (fun h4 => ?_) (fun h4 => ?_)
  · have hD := if_t hD h4
    refine r_iconst hK d_X11_enough_21 ci_m1 ?_
    cases hD
    exact r_iret hK d_X11_enough_22
  · have hD := if_f hD h4
    refine r_iload_n hK d_X11_enough_10 rfl rfl ?_
    refine r_iconst hK d_X11_enough_11 ci_0 ?_
    refine r_ldcw hK d_X11_enough_12 kc_RX11_323 ?_
    obtain ⟨v7, u6, e5, hD⟩ := bd_e hD
    refine r_callS (As := [.int x2, .int (0 : Int32), .int (1000000 : Int32)]) (st := []) (stk2 := [.int v7]) hK (C_X11_within  e5) d_X11_enough_15 mf_X11_within ml_RX11_123 ss_X11_within rfl (Nat.le_of_ble_eq_true rfl) (by decide) ⟨Nat.zero_le _, Nat.zero_le _⟩ rfl rfl ?_
    refine r_if_ne (tgt := 23) hK d_X11_enough_18 (by decide) (fun h8 => ?_) (fun h8 => ?_)
    · have hD := if_f hD h8
      refine r_iconst hK d_X11_enough_23 ci_1 ?_
      refine r_istore_n hK d_X11_enough_24 rfl (by decide) (ls2 := [.ref 0, .int x1, .int x2, .int (1 : Int32)]) rfl ?_
      exact TL_X11_enough_25 hK  _ _ _ _ _  hD
    · have hD := if_t hD h8
      refine r_iconst hK d_X11_enough_21 ci_m1 ?_
      cases hD
      exact r_iret hK d_X11_enough_22
end S_X11_enough
theorem d_X11_refuse_0 : gd cX11_refuse 0 (.aload_n 0) 1 1 := ⟨by decide +kernel, rfl⟩
theorem d_X11_refuse_1 : gd cX11_refuse 1 (.getfield 100) 3 4 := ⟨by decide +kernel, rfl⟩
theorem d_X11_refuse_4 : gd cX11_refuse 4 (.iload_n 1) 1 5 := ⟨by decide +kernel, rfl⟩
theorem d_X11_refuse_5 : gd cX11_refuse 5 (.iload_n 2) 1 6 := ⟨by decide +kernel, rfl⟩
theorem d_X11_refuse_6 : gd cX11_refuse 6 (.invokevirtual 320) 3 9 := ⟨by decide +kernel, rfl⟩
theorem d_X11_refuse_9 : gd cX11_refuse 9 (.istore 5) 2 11 := ⟨by decide +kernel, rfl⟩
theorem d_X11_refuse_11 : gd cX11_refuse 11 (.iload 5) 2 13 := ⟨by decide +kernel, rfl⟩
theorem d_X11_refuse_13 : gd cX11_refuse 13 (.iconst (-1)) 1 14 := ⟨by decide +kernel, rfl⟩
theorem d_X11_refuse_14 : gd cX11_refuse 14 (.if_icmp .eq 26) 3 17 := ⟨by decide +kernel, rfl⟩
theorem d_X11_refuse_17 : gd cX11_refuse 17 (.iload_n 3) 1 18 := ⟨by decide +kernel, rfl⟩
theorem d_X11_refuse_18 : gd cX11_refuse 18 (.iconst 0) 1 19 := ⟨by decide +kernel, rfl⟩
theorem d_X11_refuse_19 : gd cX11_refuse 19 (.ldc_w 325) 3 22 := ⟨by decide +kernel, rfl⟩
theorem d_X11_refuse_22 : gd cX11_refuse 22 (.invokestatic 123) 3 25 := ⟨by decide +kernel, rfl⟩
theorem d_X11_refuse_25 : gd cX11_refuse 25 (.ifCond .eq 15) 3 28 := ⟨by decide +kernel, rfl⟩
theorem d_X11_refuse_28 : gd cX11_refuse 28 (.iload 4) 2 30 := ⟨by decide +kernel, rfl⟩
theorem d_X11_refuse_30 : gd cX11_refuse 30 (.iconst 0) 1 31 := ⟨by decide +kernel, rfl⟩
theorem d_X11_refuse_31 : gd cX11_refuse 31 (.ldc_w 325) 3 34 := ⟨by decide +kernel, rfl⟩
theorem d_X11_refuse_34 : gd cX11_refuse 34 (.invokestatic 123) 3 37 := ⟨by decide +kernel, rfl⟩
theorem d_X11_refuse_37 : gd cX11_refuse 37 (.ifCond .ne 5) 3 40 := ⟨by decide +kernel, rfl⟩
theorem d_X11_refuse_40 : gd cX11_refuse 40 (.iconst (-1)) 1 41 := ⟨by decide +kernel, rfl⟩
theorem d_X11_refuse_41 : gd cX11_refuse 41 .ireturn 1 42 := ⟨by decide +kernel, rfl⟩
theorem d_X11_refuse_42 : gd cX11_refuse 42 (.aload_n 0) 1 43 := ⟨by decide +kernel, rfl⟩
theorem d_X11_refuse_43 : gd cX11_refuse 43 (.getfield 100) 3 46 := ⟨by decide +kernel, rfl⟩
theorem d_X11_refuse_46 : gd cX11_refuse 46 (.iload_n 2) 1 47 := ⟨by decide +kernel, rfl⟩
theorem d_X11_refuse_47 : gd cX11_refuse 47 (.invokevirtual 326) 3 50 := ⟨by decide +kernel, rfl⟩
theorem d_X11_refuse_50 : gd cX11_refuse 50 (.aload_n 0) 1 51 := ⟨by decide +kernel, rfl⟩
theorem d_X11_refuse_51 : gd cX11_refuse 51 (.getfield 100) 3 54 := ⟨by decide +kernel, rfl⟩
theorem d_X11_refuse_54 : gd cX11_refuse 54 (.getfield 324) 3 57 := ⟨by decide +kernel, rfl⟩
theorem d_X11_refuse_57 : gd cX11_refuse 57 (.if_icmp .ge 7) 3 60 := ⟨by decide +kernel, rfl⟩
theorem d_X11_refuse_60 : gd cX11_refuse 60 (.iconst 1) 1 61 := ⟨by decide +kernel, rfl⟩
theorem d_X11_refuse_61 : gd cX11_refuse 61 (.goto 4) 3 64 := ⟨by decide +kernel, rfl⟩
theorem d_X11_refuse_64 : gd cX11_refuse 64 (.iconst 0) 1 65 := ⟨by decide +kernel, rfl⟩
theorem d_X11_refuse_65 : gd cX11_refuse 65 (.istore 6) 2 67 := ⟨by decide +kernel, rfl⟩
theorem d_X11_refuse_67 : gd cX11_refuse 67 (.iload 6) 2 69 := ⟨by decide +kernel, rfl⟩
theorem d_X11_refuse_69 : gd cX11_refuse 69 (.ifCond .eq 24) 3 72 := ⟨by decide +kernel, rfl⟩
theorem d_X11_refuse_72 : gd cX11_refuse 72 (.iload 5) 2 74 := ⟨by decide +kernel, rfl⟩
theorem d_X11_refuse_74 : gd cX11_refuse 74 .i2l 1 75 := ⟨by decide +kernel, rfl⟩
theorem d_X11_refuse_75 : gd cX11_refuse 75 (.iload_n 3) 1 76 := ⟨by decide +kernel, rfl⟩
theorem d_X11_refuse_76 : gd cX11_refuse 76 .i2l 1 77 := ⟨by decide +kernel, rfl⟩
theorem d_X11_refuse_77 : gd cX11_refuse 77 .lmul 1 78 := ⟨by decide +kernel, rfl⟩
theorem d_X11_refuse_78 : gd cX11_refuse 78 (.iload 4) 2 80 := ⟨by decide +kernel, rfl⟩
theorem d_X11_refuse_80 : gd cX11_refuse 80 .i2l 1 81 := ⟨by decide +kernel, rfl⟩
theorem d_X11_refuse_81 : gd cX11_refuse 81 (.ldc2_w 329) 3 84 := ⟨by decide +kernel, rfl⟩
theorem d_X11_refuse_84 : gd cX11_refuse 84 .lmul 1 85 := ⟨by decide +kernel, rfl⟩
theorem d_X11_refuse_85 : gd cX11_refuse 85 .lcmp 1 86 := ⟨by decide +kernel, rfl⟩
theorem d_X11_refuse_86 : gd cX11_refuse 86 (.ifCond .le 7) 3 89 := ⟨by decide +kernel, rfl⟩
theorem d_X11_refuse_89 : gd cX11_refuse 89 (.iconst 1) 1 90 := ⟨by decide +kernel, rfl⟩
theorem d_X11_refuse_90 : gd cX11_refuse 90 (.goto 4) 3 93 := ⟨by decide +kernel, rfl⟩
theorem d_X11_refuse_93 : gd cX11_refuse 93 (.iconst 0) 1 94 := ⟨by decide +kernel, rfl⟩
theorem d_X11_refuse_94 : gd cX11_refuse 94 .ireturn 1 95 := ⟨by decide +kernel, rfl⟩
def B_X11_refuse_93   (μ : gs_M) : Option (Int32 × gs_M) :=
  some ((0 : Int32), μ)
def B_X11_refuse_65  (x3 : Int32) (x4 : Int32) (x5 : Int32) (xs0 : Int32) (μ : gs_M) : Option (Int32 × gs_M) :=
  if xs0 = 0 then (B_X11_refuse_93 μ) else (if (lg_cmp ((Int32.toInt64 x5) * (Int32.toInt64 x3)) ((Int32.toInt64 x4) * (1000000 : Int64))) ≤ 0 then (B_X11_refuse_93 μ) else (some ((1 : Int32), μ)))
def D_X11_refuse (x1 : Int32) (x2 : Int32) (x3 : Int32) (x4 : Int32) (μ : gs_M) : Option (Int32 × gs_M) :=
  bd (D_X0_missParts x1 x2 μ) (fun v3 u2 => if v3 = (-1 : Int32) then (some ((-1 : Int32), u2)) else (bd (D_X11_within x3 (0 : Int32) (99999 : Int32) u2) (fun v7 u6 => if v7 = 0 then (some ((-1 : Int32), u6)) else (bd (D_X11_within x4 (0 : Int32) (99999 : Int32) u6) (fun v11 u10 => if v11 = 0 then (some ((-1 : Int32), u10)) else (bd (D_X0_noneAbove x2 u10) (fun v15 u14 => if (gI u14 73 1) ≤ v15 then (B_X11_refuse_65 x3 x4 v3 (0 : Int32) u14) else (B_X11_refuse_65 x3 x4 v3 (1 : Int32) u14))))))))
section S_X11_refuse
variable {p : Program} {l : Launch} {e : Env} {R : Room} {s : State} {m : MethodId} {args : Array Value} {below : List Frame} {meth : Method} {c : Code} {ad : Nat → Nat} {g : va_G} {tyc : Nat → ClassId}
set_option maxRecDepth 20000 in
theorem T_X11_refuse_93  (hK : KC p R s m args meth c ad g tyc RX11 cX11_refuse 7 (some .int) 2) {r : Int32} {μ2 : gs_M}    {μ : gs_M}  (hD : B_X11_refuse_93   μ = some (r, μ2)) : WJ p l e R s m args below meth c 0 0 (MQ below (gs_Q ad g tyc (some (.int r)) μ2) args s 0 0 (gs_A ad)) ad g tyc 7 93 [gs_J, gs_J, gs_J, gs_J, gs_J, gs_J, gs_J] [] μ := by
  unfold B_X11_refuse_93 at hD
  refine r_iconst hK d_X11_refuse_93 ci_0 ?_
  cases hD
  exact r_iret hK d_X11_refuse_94
set_option maxRecDepth 20000 in
theorem T_X11_refuse_65  (hK : KC p R s m args meth c ad g tyc RX11 cX11_refuse 7 (some .int) 2) {r : Int32} {μ2 : gs_M}   {x3 : Int32} {x4 : Int32} {x5 : Int32} {xs0 : Int32} {μ : gs_M}  (hD : B_X11_refuse_65  x3 x4 x5 xs0 μ = some (r, μ2)) : WJ p l e R s m args below meth c 0 0 (MQ below (gs_Q ad g tyc (some (.int r)) μ2) args s 0 0 (gs_A ad)) ad g tyc 7 65 [gs_J, gs_J, gs_J, .int x3, .int x4, .int x5, gs_J] [.int xs0] μ := by
  unfold B_X11_refuse_65 at hD
  refine r_istore hK d_X11_refuse_65 (by decide) (ls2 := [gs_J, gs_J, gs_J, .int x3, .int x4, .int x5, .int xs0]) rfl ?_
  refine r_iload hK d_X11_refuse_67 rfl ?_
  refine r_if_eq (tgt := 93) hK d_X11_refuse_69 (by decide) (fun h1 => ?_) (fun h1 => ?_)
  · have hD := if_t hD h1
    refine r_junk [false, false, false, false, false, false, false] (ls2 := [gs_J, gs_J, gs_J, gs_J, gs_J, gs_J, gs_J]) rfl ?_
    exact T_X11_refuse_93 hK   hD
  · have hD := if_f hD h1
    refine r_iload hK d_X11_refuse_72 rfl ?_
    refine r_i2l hK d_X11_refuse_74 ?_
    refine r_iload_n hK d_X11_refuse_75 rfl rfl ?_
    refine r_i2l hK d_X11_refuse_76 ?_
    refine r_lmul hK d_X11_refuse_77 ?_
    refine r_iload hK d_X11_refuse_78 rfl ?_
    refine r_i2l hK d_X11_refuse_80 ?_
    refine r_ldc2 hK d_X11_refuse_81 kl_RX11_329 ?_
    refine r_lmul hK d_X11_refuse_84 ?_
    refine r_lcmp hK d_X11_refuse_85 ?_
    refine r_if_le (tgt := 93) hK d_X11_refuse_86 (by decide) (fun h2 => ?_) (fun h2 => ?_)
    · have hD := if_t hD h2
      refine r_junk [false, false, false, false, false, false, false] (ls2 := [gs_J, gs_J, gs_J, gs_J, gs_J, gs_J, gs_J]) rfl ?_
      exact T_X11_refuse_93 hK   hD
    · have hD := if_f hD h2
      refine r_iconst hK d_X11_refuse_89 ci_1 ?_
      refine r_goto (tgt := 94) hK d_X11_refuse_90 (by decide) ?_
      cases hD
      exact r_iret hK d_X11_refuse_94
set_option maxRecDepth 20000 in
theorem C_X11_refuse  {x1 : Int32} {x2 : Int32} {x3 : Int32} {x4 : Int32} {μ : gs_M} {r : Int32} {μ2 : gs_M}  (hD : D_X11_refuse x1 x2 x3 x4 μ = some (r, μ2)) : CALL yX11_refuse cX11_refuse 7 (some .int) 2 [.ref 0, .int x1, .int x2, .int x3, .int x4] μ (some (.int r)) μ2 := by
  unfold D_X11_refuse at hD
  refine gs_enter mf_X11_refuse (Nat.le_of_ble_eq_true rfl) (ls := [.ref 0, .int x1, .int x2, .int x3, .int x4, gs_J, gs_J]) rfl (fun p l e R s m args below meth c ad g tyc hK => ?_)
  have hK : KC p R s m args meth c ad g tyc RX11 cX11_refuse 7 (some .int) 2 := hK
  refine r_aload_n hK d_X11_refuse_0 rfl rfl ?_
  refine r_getR hK d_X11_refuse_1 fl_RX11_100_10 rfl kd_0 ?_
  refine r_ref (b := 73) R0_0_16 ?_
  refine r_iload_n hK d_X11_refuse_4 rfl rfl ?_
  refine r_iload_n hK d_X11_refuse_5 rfl rfl ?_
  obtain ⟨v3, u2, e1, hD⟩ := bd_e hD
  refine r_callV (As := [.int x1, .int x2]) (st := []) (stk2 := [.int v3]) hK (C_X0_missParts  e1) d_X11_refuse_6 mf_X0_missParts ml_RX11_320 im_X0_missParts rfl se_0_RX0_X0_missParts kd_73 rfl (Nat.le_of_ble_eq_true rfl) (by decide) ⟨Nat.zero_le _, Nat.zero_le _⟩ rfl rfl ?_
  refine r_istore hK d_X11_refuse_9 (by decide) (ls2 := [.ref 0, .int x1, .int x2, .int x3, .int x4, .int v3, gs_J]) rfl ?_
  refine r_iload hK d_X11_refuse_11 rfl ?_
  refine r_iconst hK d_X11_refuse_13 ci_m1 ?_
  refine r_icmp_eq (tgt := 40) hK d_X11_refuse_14 (by decide) (fun h4 => ?_) (fun h4 => ?_)
  · have hD := if_t hD h4
    refine r_iconst hK d_X11_refuse_40 ci_m1 ?_
    cases hD
    exact r_iret hK d_X11_refuse_41
  · have hD := if_f hD h4
    refine r_iload_n hK d_X11_refuse_17 rfl rfl ?_
    refine r_iconst hK d_X11_refuse_18 ci_0 ?_
    refine r_ldcw hK d_X11_refuse_19 kc_RX11_325 ?_
    obtain ⟨v7, u6, e5, hD⟩ := bd_e hD
    refine r_callS (As := [.int x3, .int (0 : Int32), .int (99999 : Int32)]) (st := []) (stk2 := [.int v7]) hK (C_X11_within  e5) d_X11_refuse_22 mf_X11_within ml_RX11_123 ss_X11_within rfl (Nat.le_of_ble_eq_true rfl) (by decide) ⟨Nat.zero_le _, Nat.zero_le _⟩ rfl rfl ?_
    refine r_if_eq (tgt := 40) hK d_X11_refuse_25 (by decide) (fun h8 => ?_) (fun h8 => ?_)
    · have hD := if_t hD h8
      refine r_iconst hK d_X11_refuse_40 ci_m1 ?_
      cases hD
      exact r_iret hK d_X11_refuse_41
    · have hD := if_f hD h8
      refine r_iload hK d_X11_refuse_28 rfl ?_
      refine r_iconst hK d_X11_refuse_30 ci_0 ?_
      refine r_ldcw hK d_X11_refuse_31 kc_RX11_325 ?_
      obtain ⟨v11, u10, e9, hD⟩ := bd_e hD
      refine r_callS (As := [.int x4, .int (0 : Int32), .int (99999 : Int32)]) (st := []) (stk2 := [.int v11]) hK (C_X11_within  e9) d_X11_refuse_34 mf_X11_within ml_RX11_123 ss_X11_within rfl (Nat.le_of_ble_eq_true rfl) (by decide) ⟨Nat.zero_le _, Nat.zero_le _⟩ rfl rfl ?_
      refine r_if_ne (tgt := 42) hK d_X11_refuse_37 (by decide) (fun h12 => ?_) (fun h12 => ?_)
      · have hD := if_f hD h12
        refine r_aload_n hK d_X11_refuse_42 rfl rfl ?_
        refine r_getR hK d_X11_refuse_43 fl_RX11_100_10 rfl kd_0 ?_
        refine r_ref (b := 73) R0_0_16 ?_
        refine r_iload_n hK d_X11_refuse_46 rfl rfl ?_
        obtain ⟨v15, u14, e13, hD⟩ := bd_e hD
        refine r_callV (As := [.int x2]) (st := []) (stk2 := [.int v15]) hK (C_X0_noneAbove  e13) d_X11_refuse_47 mf_X0_noneAbove ml_RX11_326 im_X0_noneAbove rfl se_0_RX0_X0_noneAbove kd_73 rfl (Nat.le_of_ble_eq_true rfl) (by decide) ⟨Nat.zero_le _, Nat.zero_le _⟩ rfl rfl ?_
        refine r_aload_n hK d_X11_refuse_50 rfl rfl ?_
        refine r_getR hK d_X11_refuse_51 fl_RX11_100_10 rfl kd_0 ?_
        refine r_ref (b := 73) R0_0_16 ?_
        refine r_getI hK d_X11_refuse_54 fl_RX11_324_0 rfl kd_73 ?_
        refine r_icmp_ge (tgt := 64) hK d_X11_refuse_57 (by decide) (fun h16 => ?_) (fun h16 => ?_)
        · have hD := if_t hD h16
          refine r_iconst hK d_X11_refuse_64 ci_0 ?_
          refine r_junk [false, false, false, true, true, true, false] (ls2 := [gs_J, gs_J, gs_J, .int x3, .int x4, .int v3, gs_J]) rfl ?_
          exact T_X11_refuse_65 hK   hD
        · have hD := if_f hD h16
          refine r_iconst hK d_X11_refuse_60 ci_1 ?_
          refine r_goto (tgt := 65) hK d_X11_refuse_61 (by decide) ?_
          refine r_junk [false, false, false, true, true, true, false] (ls2 := [gs_J, gs_J, gs_J, .int x3, .int x4, .int v3, gs_J]) rfl ?_
          exact T_X11_refuse_65 hK   hD
      · have hD := if_t hD h12
        refine r_iconst hK d_X11_refuse_40 ci_m1 ?_
        cases hD
        exact r_iret hK d_X11_refuse_41
end S_X11_refuse
theorem d_X11_image_0 : gd cX11_image 0 (.aload_n 0) 1 1 := ⟨by decide +kernel, rfl⟩
theorem d_X11_image_1 : gd cX11_image 1 (.getfield 66) 3 4 := ⟨by decide +kernel, rfl⟩
theorem d_X11_image_4 : gd cX11_image 4 (.invokevirtual 253) 3 7 := ⟨by decide +kernel, rfl⟩
theorem d_X11_image_7 : gd cX11_image 7 (.ifCond .ne 5) 3 10 := ⟨by decide +kernel, rfl⟩
theorem d_X11_image_10 : gd cX11_image 10 (.iconst (-1)) 1 11 := ⟨by decide +kernel, rfl⟩
theorem d_X11_image_11 : gd cX11_image 11 .ireturn 1 12 := ⟨by decide +kernel, rfl⟩
theorem d_X11_image_12 : gd cX11_image 12 (.aload_n 0) 1 13 := ⟨by decide +kernel, rfl⟩
theorem d_X11_image_13 : gd cX11_image 13 (.getfield 70) 3 16 := ⟨by decide +kernel, rfl⟩
theorem d_X11_image_16 : gd cX11_image 16 (.aload_n 0) 1 17 := ⟨by decide +kernel, rfl⟩
theorem d_X11_image_17 : gd cX11_image 17 (.getfield 66) 3 20 := ⟨by decide +kernel, rfl⟩
theorem d_X11_image_20 : gd cX11_image 20 (.invokevirtual 278) 3 23 := ⟨by decide +kernel, rfl⟩
theorem d_X11_image_23 : gd cX11_image 23 (.aload_n 0) 1 24 := ⟨by decide +kernel, rfl⟩
theorem d_X11_image_24 : gd cX11_image 24 (.getfield 70) 3 27 := ⟨by decide +kernel, rfl⟩
theorem d_X11_image_27 : gd cX11_image 27 (.getfield 259) 3 30 := ⟨by decide +kernel, rfl⟩
theorem d_X11_image_30 : gd cX11_image 30 .ireturn 1 31 := ⟨by decide +kernel, rfl⟩
def D_X11_image  (μ : gs_M) : Option (Int32 × gs_M) :=
  bd (D_X10_isLoaded 26 μ) (fun v3 u2 => if v3 = 0 then (some ((-1 : Int32), u2)) else (bd0 (D_X10_become 36 26 u2) (fun u6 => some (gI u6 36 2, u6))))
section S_X11_image
variable {p : Program} {l : Launch} {e : Env} {R : Room} {s : State} {m : MethodId} {args : Array Value} {below : List Frame} {meth : Method} {c : Code} {ad : Nat → Nat} {g : va_G} {tyc : Nat → ClassId}
set_option maxRecDepth 20000 in
theorem C_X11_image   {μ : gs_M} {r : Int32} {μ2 : gs_M}  (hD : D_X11_image  μ = some (r, μ2)) : CALL yX11_image cX11_image 1 (some .int) 3 [.ref 0] μ (some (.int r)) μ2 := by
  unfold D_X11_image at hD
  refine gs_enter mf_X11_image (Nat.le_of_ble_eq_true rfl) (ls := [.ref 0]) rfl (fun p l e R s m args below meth c ad g tyc hK => ?_)
  have hK : KC p R s m args meth c ad g tyc RX11 cX11_image 1 (some .int) 3 := hK
  refine r_aload_n hK d_X11_image_0 rfl rfl ?_
  refine r_getR hK d_X11_image_1 fl_RX11_66_10 rfl kd_0 ?_
  refine r_ref (b := 26) R0_0_8 ?_
  obtain ⟨v3, u2, e1, hD⟩ := bd_e hD
  refine r_callV (As := []) (st := []) (stk2 := [.int v3]) hK (C_X10_isLoaded kd_26 e1) d_X11_image_4 mf_X10_isLoaded ml_RX11_253 im_X10_isLoaded rfl se_9_RX10_X10_isLoaded kd_26 rfl (Nat.le_of_ble_eq_true rfl) (by decide) ⟨Nat.zero_le _, Nat.zero_le _⟩ rfl rfl ?_
  refine r_if_ne (tgt := 12) hK d_X11_image_7 (by decide) (fun h4 => ?_) (fun h4 => ?_)
  · have hD := if_f hD h4
    refine r_aload_n hK d_X11_image_12 rfl rfl ?_
    refine r_getR hK d_X11_image_13 fl_RX11_70_10 rfl kd_0 ?_
    refine r_ref (b := 36) R0_0_9 ?_
    refine r_aload_n hK d_X11_image_16 rfl rfl ?_
    refine r_getR hK d_X11_image_17 fl_RX11_66_10 rfl kd_0 ?_
    refine r_ref (b := 26) R0_0_8 ?_
    obtain ⟨u6, e5, hD⟩ := bd0_e hD
    refine r_callV (As := [.ref 26]) (st := []) (stk2 := []) hK (C_X10_become kd_36 kd_26 e5) d_X11_image_20 mf_X10_become ml_RX11_278 im_X10_become rfl se_9_RX10_X10_become kd_36 rfl (Nat.le_of_ble_eq_true rfl) (by decide) ⟨Nat.zero_le _, Nat.zero_le _⟩ rfl rfl ?_
    refine r_aload_n hK d_X11_image_23 rfl rfl ?_
    refine r_getR hK d_X11_image_24 fl_RX11_70_10 rfl kd_0 ?_
    refine r_ref (b := 36) R0_0_9 ?_
    refine r_getI hK d_X11_image_27 fl_RX11_259_9 rfl kd_36 ?_
    cases hD
    exact r_iret hK d_X11_image_30
  · have hD := if_t hD h4
    refine r_iconst hK d_X11_image_10 ci_m1 ?_
    cases hD
    exact r_iret hK d_X11_image_11
end S_X11_image
theorem d_X11_back_0 : gd cX11_back 0 (.aload_n 0) 1 1 := ⟨by decide +kernel, rfl⟩
theorem d_X11_back_1 : gd cX11_back 1 (.getfield 70) 3 4 := ⟨by decide +kernel, rfl⟩
theorem d_X11_back_4 : gd cX11_back 4 (.invokevirtual 253) 3 7 := ⟨by decide +kernel, rfl⟩
theorem d_X11_back_7 : gd cX11_back 7 (.ifCond .ne 5) 3 10 := ⟨by decide +kernel, rfl⟩
theorem d_X11_back_10 : gd cX11_back 10 (.iconst (-1)) 1 11 := ⟨by decide +kernel, rfl⟩
theorem d_X11_back_11 : gd cX11_back 11 .ireturn 1 12 := ⟨by decide +kernel, rfl⟩
theorem d_X11_back_12 : gd cX11_back 12 (.aload_n 0) 1 13 := ⟨by decide +kernel, rfl⟩
theorem d_X11_back_13 : gd cX11_back 13 (.getfield 66) 3 16 := ⟨by decide +kernel, rfl⟩
theorem d_X11_back_16 : gd cX11_back 16 (.aload_n 0) 1 17 := ⟨by decide +kernel, rfl⟩
theorem d_X11_back_17 : gd cX11_back 17 (.getfield 70) 3 20 := ⟨by decide +kernel, rfl⟩
theorem d_X11_back_20 : gd cX11_back 20 (.invokevirtual 278) 3 23 := ⟨by decide +kernel, rfl⟩
theorem d_X11_back_23 : gd cX11_back 23 (.aload_n 0) 1 24 := ⟨by decide +kernel, rfl⟩
theorem d_X11_back_24 : gd cX11_back 24 (.getfield 66) 3 27 := ⟨by decide +kernel, rfl⟩
theorem d_X11_back_27 : gd cX11_back 27 (.getfield 259) 3 30 := ⟨by decide +kernel, rfl⟩
theorem d_X11_back_30 : gd cX11_back 30 .ireturn 1 31 := ⟨by decide +kernel, rfl⟩
def D_X11_back  (μ : gs_M) : Option (Int32 × gs_M) :=
  bd (D_X10_isLoaded 36 μ) (fun v3 u2 => if v3 = 0 then (some ((-1 : Int32), u2)) else (bd0 (D_X10_become 26 36 u2) (fun u6 => some (gI u6 26 2, u6))))
section S_X11_back
variable {p : Program} {l : Launch} {e : Env} {R : Room} {s : State} {m : MethodId} {args : Array Value} {below : List Frame} {meth : Method} {c : Code} {ad : Nat → Nat} {g : va_G} {tyc : Nat → ClassId}
set_option maxRecDepth 20000 in
theorem C_X11_back   {μ : gs_M} {r : Int32} {μ2 : gs_M}  (hD : D_X11_back  μ = some (r, μ2)) : CALL yX11_back cX11_back 1 (some .int) 3 [.ref 0] μ (some (.int r)) μ2 := by
  unfold D_X11_back at hD
  refine gs_enter mf_X11_back (Nat.le_of_ble_eq_true rfl) (ls := [.ref 0]) rfl (fun p l e R s m args below meth c ad g tyc hK => ?_)
  have hK : KC p R s m args meth c ad g tyc RX11 cX11_back 1 (some .int) 3 := hK
  refine r_aload_n hK d_X11_back_0 rfl rfl ?_
  refine r_getR hK d_X11_back_1 fl_RX11_70_10 rfl kd_0 ?_
  refine r_ref (b := 36) R0_0_9 ?_
  obtain ⟨v3, u2, e1, hD⟩ := bd_e hD
  refine r_callV (As := []) (st := []) (stk2 := [.int v3]) hK (C_X10_isLoaded kd_36 e1) d_X11_back_4 mf_X10_isLoaded ml_RX11_253 im_X10_isLoaded rfl se_9_RX10_X10_isLoaded kd_36 rfl (Nat.le_of_ble_eq_true rfl) (by decide) ⟨Nat.zero_le _, Nat.zero_le _⟩ rfl rfl ?_
  refine r_if_ne (tgt := 12) hK d_X11_back_7 (by decide) (fun h4 => ?_) (fun h4 => ?_)
  · have hD := if_f hD h4
    refine r_aload_n hK d_X11_back_12 rfl rfl ?_
    refine r_getR hK d_X11_back_13 fl_RX11_66_10 rfl kd_0 ?_
    refine r_ref (b := 26) R0_0_8 ?_
    refine r_aload_n hK d_X11_back_16 rfl rfl ?_
    refine r_getR hK d_X11_back_17 fl_RX11_70_10 rfl kd_0 ?_
    refine r_ref (b := 36) R0_0_9 ?_
    obtain ⟨u6, e5, hD⟩ := bd0_e hD
    refine r_callV (As := [.ref 36]) (st := []) (stk2 := []) hK (C_X10_become kd_26 kd_36 e5) d_X11_back_20 mf_X10_become ml_RX11_278 im_X10_become rfl se_9_RX10_X10_become kd_26 rfl (Nat.le_of_ble_eq_true rfl) (by decide) ⟨Nat.zero_le _, Nat.zero_le _⟩ rfl rfl ?_
    refine r_aload_n hK d_X11_back_23 rfl rfl ?_
    refine r_getR hK d_X11_back_24 fl_RX11_66_10 rfl kd_0 ?_
    refine r_ref (b := 26) R0_0_8 ?_
    refine r_getI hK d_X11_back_27 fl_RX11_259_9 rfl kd_26 ?_
    cases hD
    exact r_iret hK d_X11_back_30
  · have hD := if_t hD h4
    refine r_iconst hK d_X11_back_10 ci_m1 ?_
    cases hD
    exact r_iret hK d_X11_back_11
end S_X11_back
theorem d_X11_trim_0 : gd cX11_trim 0 (.aload_n 0) 1 1 := ⟨by decide +kernel, rfl⟩
theorem d_X11_trim_1 : gd cX11_trim 1 (.invokevirtual 206) 3 4 := ⟨by decide +kernel, rfl⟩
theorem d_X11_trim_4 : gd cX11_trim 4 (.ifCond .eq 24) 3 7 := ⟨by decide +kernel, rfl⟩
theorem d_X11_trim_7 : gd cX11_trim 7 (.aload_n 0) 1 8 := ⟨by decide +kernel, rfl⟩
theorem d_X11_trim_8 : gd cX11_trim 8 (.getfield 66) 3 11 := ⟨by decide +kernel, rfl⟩
theorem d_X11_trim_11 : gd cX11_trim 11 (.iload_n 1) 1 12 := ⟨by decide +kernel, rfl⟩
theorem d_X11_trim_12 : gd cX11_trim 12 (.invokevirtual 228) 3 15 := ⟨by decide +kernel, rfl⟩
theorem d_X11_trim_15 : gd cX11_trim 15 (.ifCond .eq 13) 3 18 := ⟨by decide +kernel, rfl⟩
theorem d_X11_trim_18 : gd cX11_trim 18 (.iload_n 2) 1 19 := ⟨by decide +kernel, rfl⟩
theorem d_X11_trim_19 : gd cX11_trim 19 (.iconst 1) 1 20 := ⟨by decide +kernel, rfl⟩
theorem d_X11_trim_20 : gd cX11_trim 20 (.bipush 99) 2 22 := ⟨by decide +kernel, rfl⟩
theorem d_X11_trim_22 : gd cX11_trim 22 (.invokestatic 123) 3 25 := ⟨by decide +kernel, rfl⟩
theorem d_X11_trim_25 : gd cX11_trim 25 (.ifCond .ne 5) 3 28 := ⟨by decide +kernel, rfl⟩
theorem d_X11_trim_28 : gd cX11_trim 28 (.iconst (-1)) 1 29 := ⟨by decide +kernel, rfl⟩
theorem d_X11_trim_29 : gd cX11_trim 29 .ireturn 1 30 := ⟨by decide +kernel, rfl⟩
theorem d_X11_trim_30 : gd cX11_trim 30 (.iconst 0) 1 31 := ⟨by decide +kernel, rfl⟩
theorem d_X11_trim_31 : gd cX11_trim 31 (.istore_n 3) 1 32 := ⟨by decide +kernel, rfl⟩
theorem d_X11_trim_32 : gd cX11_trim 32 (.iload_n 3) 1 33 := ⟨by decide +kernel, rfl⟩
theorem d_X11_trim_33 : gd cX11_trim 33 (.iload_n 2) 1 34 := ⟨by decide +kernel, rfl⟩
theorem d_X11_trim_34 : gd cX11_trim 34 (.if_icmp .ge 24) 3 37 := ⟨by decide +kernel, rfl⟩
theorem d_X11_trim_37 : gd cX11_trim 37 (.aload_n 0) 1 38 := ⟨by decide +kernel, rfl⟩
theorem d_X11_trim_38 : gd cX11_trim 38 (.getfield 66) 3 41 := ⟨by decide +kernel, rfl⟩
theorem d_X11_trim_41 : gd cX11_trim 41 (.getfield 182) 3 44 := ⟨by decide +kernel, rfl⟩
theorem d_X11_trim_44 : gd cX11_trim 44 (.iload_n 1) 1 45 := ⟨by decide +kernel, rfl⟩
theorem d_X11_trim_45 : gd cX11_trim 45 .aaload 1 46 := ⟨by decide +kernel, rfl⟩
theorem d_X11_trim_46 : gd cX11_trim 46 (.invokevirtual 331) 3 49 := ⟨by decide +kernel, rfl⟩
theorem d_X11_trim_49 : gd cX11_trim 49 (.ifCond .eq 9) 3 52 := ⟨by decide +kernel, rfl⟩
theorem d_X11_trim_52 : gd cX11_trim 52 (.iinc 3 1) 3 55 := ⟨by decide +kernel, rfl⟩
theorem d_X11_trim_55 : gd cX11_trim 55 (.goto (-23)) 3 58 := ⟨by decide +kernel, rfl⟩
theorem d_X11_trim_58 : gd cX11_trim 58 (.iload_n 3) 1 59 := ⟨by decide +kernel, rfl⟩
theorem d_X11_trim_59 : gd cX11_trim 59 .ireturn 1 60 := ⟨by decide +kernel, rfl⟩
def Bo_X11_trim_32 (q32 : Int32 → Int32 → Int32 → gs_M → Option (Int32 × gs_M)) (x1 : Int32) (x2 : Int32) (x3 : Int32) (μ : gs_M) : Option (Int32 × gs_M) :=
  if x2 ≤ x3 then (some (x3, μ)) else (ck (inb x1 4) (bd (D_X1_evenOut (26 + 2 + 2 * Int32.toNatClampNeg x1) μ) (fun v5 u4 => if v5 = 0 then (some (x3, u4)) else (q32 x1 x2 (x3 + (1 : Int32)) u4))))
def L_X11_trim_32  : Nat → Int32 → Int32 → Int32 → gs_M → Option (Int32 × gs_M)
  | 0 => fun _ _ _ _ => none
  | n + 1 => fun x1 x2 x3 μ => Bo_X11_trim_32  (L_X11_trim_32  n) x1 x2 x3 μ
def D_X11_trim (x1 : Int32) (x2 : Int32) (μ : gs_M) : Option (Int32 × gs_M) :=
  bd (D_X11_isReady μ) (fun v3 u2 => if v3 = 0 then (some ((-1 : Int32), u2)) else (bd (D_X10_hasHold 26 x1 u2) (fun v7 u6 => if v7 = 0 then (some ((-1 : Int32), u6)) else (bd (D_X11_within x2 (1 : Int32) (99 : Int32) u6) (fun v11 u10 => if v11 = 0 then (some ((-1 : Int32), u10)) else (L_X11_trim_32 4096 x1 x2 (0 : Int32) u10))))))
section S_X11_trim
variable {p : Program} {l : Launch} {e : Env} {R : Room} {s : State} {m : MethodId} {args : Array Value} {below : List Frame} {meth : Method} {c : Code} {ad : Nat → Nat} {g : va_G} {tyc : Nat → ClassId}
set_option maxRecDepth 20000 in
theorem To_X11_trim_32  (hK : KC p R s m args meth c ad g tyc RX11 cX11_trim 4 (some .int) 2) {r : Int32} {μ2 : gs_M} {q32 : Int32 → Int32 → Int32 → gs_M → Option (Int32 × gs_M)} (hq32 : ∀ (x1 : Int32) (x2 : Int32) (x3 : Int32) (μ : gs_M), q32 x1 x2 x3 μ = some (r, μ2) → WJ p l e R s m args below meth c 0 0 (MQ below (gs_Q ad g tyc (some (.int r)) μ2) args s 0 0 (gs_A ad)) ad g tyc 4 32 [.ref 0, .int x1, .int x2, .int x3] [] μ) {x1 : Int32} {x2 : Int32} {x3 : Int32} {μ : gs_M}  (hD : Bo_X11_trim_32 q32 x1 x2 x3 μ = some (r, μ2)) : WJ p l e R s m args below meth c 0 0 (MQ below (gs_Q ad g tyc (some (.int r)) μ2) args s 0 0 (gs_A ad)) ad g tyc 4 32 [.ref 0, .int x1, .int x2, .int x3] [] μ := by
  unfold Bo_X11_trim_32 at hD
  refine r_iload_n hK d_X11_trim_32 rfl rfl ?_
  refine r_iload_n hK d_X11_trim_33 rfl rfl ?_
  refine r_icmp_ge (tgt := 58) hK d_X11_trim_34 (by decide) (fun h1 => ?_) (fun h1 => ?_)
  · have hD := if_t hD h1
    refine r_iload_n hK d_X11_trim_58 rfl rfl ?_
    cases hD
    exact r_iret hK d_X11_trim_59
  · have hD := if_f hD h1
    refine r_aload_n hK d_X11_trim_37 rfl rfl ?_
    refine r_getR hK d_X11_trim_38 fl_RX11_66_10 rfl kd_0 ?_
    refine r_ref (b := 26) R0_0_8 ?_
    refine r_getR hK d_X11_trim_41 fl_RX11_182_9 rfl kd_26 ?_
    refine r_ref (b := (26 + 1)) ((ly_ves _ kd_26).1.1) ?_
    refine r_iload_n hK d_X11_trim_44 rfl rfl ?_
    obtain ⟨h2, hD⟩ := ck_e hD
    refine r_aaldH hK d_X11_trim_45 ((ly_ves _ kd_26).1.2.1) ((ly_ves _ kd_26).1.2.2) (inb_in h2) ?_
    refine r_ref (b := (26 + 2 + 2 * Int32.toNatClampNeg x1)) ((ly_vh _ kd_26 _ (inb_lt h2)).1) ?_
    obtain ⟨v5, u4, e3, hD⟩ := bd_e hD
    refine r_callV (As := []) (st := []) (stk2 := [.int v5]) hK (C_X1_evenOut ((ly_vh _ kd_26 _ (inb_lt h2)).2) e3) d_X11_trim_46 mf_X1_evenOut ml_RX11_331 im_X1_evenOut rfl se_1_RX1_X1_evenOut ((ly_vh _ kd_26 _ (inb_lt h2)).2) rfl (Nat.le_of_ble_eq_true rfl) (by decide) ⟨Nat.zero_le _, Nat.zero_le _⟩ rfl rfl ?_
    refine r_if_eq (tgt := 58) hK d_X11_trim_49 (by decide) (fun h6 => ?_) (fun h6 => ?_)
    · have hD := if_t hD h6
      refine r_iload_n hK d_X11_trim_58 rfl rfl ?_
      cases hD
      exact r_iret hK d_X11_trim_59
    · have hD := if_f hD h6
      refine r_iinc hK d_X11_trim_52 rfl (v := x3 + (1 : Int32)) (by rw [ci_1]) (by decide) (ls2 := [.ref 0, .int x1, .int x2, .int (x3 + (1 : Int32))]) rfl ?_
      refine r_goto (tgt := 32) hK d_X11_trim_55 (by decide) ?_
      exact hq32 _ _ _ _  hD
set_option maxRecDepth 20000 in
theorem TL_X11_trim_32  (hK : KC p R s m args meth c ad g tyc RX11 cX11_trim 4 (some .int) 2) {r : Int32} {μ2 : gs_M}   : ∀ (n : Nat) (x1 : Int32) (x2 : Int32) (x3 : Int32) (μ : gs_M), L_X11_trim_32  n x1 x2 x3 μ = some (r, μ2) → WJ p l e R s m args below meth c 0 0 (MQ below (gs_Q ad g tyc (some (.int r)) μ2) args s 0 0 (gs_A ad)) ad g tyc 4 32 [.ref 0, .int x1, .int x2, .int x3] [] μ := by
  intro n
  induction n with
  | zero => intro x1 x2 x3 μ  hD; cases hD
  | succ n ih => intro x1 x2 x3 μ  hD; exact To_X11_trim_32 hK  ih  hD
set_option maxRecDepth 20000 in
theorem C_X11_trim  {x1 : Int32} {x2 : Int32} {μ : gs_M} {r : Int32} {μ2 : gs_M}  (hD : D_X11_trim x1 x2 μ = some (r, μ2)) : CALL yX11_trim cX11_trim 4 (some .int) 2 [.ref 0, .int x1, .int x2] μ (some (.int r)) μ2 := by
  unfold D_X11_trim at hD
  refine gs_enter mf_X11_trim (Nat.le_of_ble_eq_true rfl) (ls := [.ref 0, .int x1, .int x2, gs_J]) rfl (fun p l e R s m args below meth c ad g tyc hK => ?_)
  have hK : KC p R s m args meth c ad g tyc RX11 cX11_trim 4 (some .int) 2 := hK
  refine r_aload_n hK d_X11_trim_0 rfl rfl ?_
  obtain ⟨v3, u2, e1, hD⟩ := bd_e hD
  refine r_callV (As := []) (st := []) (stk2 := [.int v3]) hK (C_X11_isReady  e1) d_X11_trim_1 mf_X11_isReady ml_RX11_206 im_X11_isReady rfl se_10_RX11_X11_isReady kd_0 rfl (Nat.le_of_ble_eq_true rfl) (by decide) ⟨Nat.zero_le _, Nat.zero_le _⟩ rfl rfl ?_
  refine r_if_eq (tgt := 28) hK d_X11_trim_4 (by decide) (fun h4 => ?_) (fun h4 => ?_)
  · have hD := if_t hD h4
    refine r_iconst hK d_X11_trim_28 ci_m1 ?_
    cases hD
    exact r_iret hK d_X11_trim_29
  · have hD := if_f hD h4
    refine r_aload_n hK d_X11_trim_7 rfl rfl ?_
    refine r_getR hK d_X11_trim_8 fl_RX11_66_10 rfl kd_0 ?_
    refine r_ref (b := 26) R0_0_8 ?_
    refine r_iload_n hK d_X11_trim_11 rfl rfl ?_
    obtain ⟨v7, u6, e5, hD⟩ := bd_e hD
    refine r_callV (As := [.int x1]) (st := []) (stk2 := [.int v7]) hK (C_X10_hasHold kd_26 e5) d_X11_trim_12 mf_X10_hasHold ml_RX11_228 im_X10_hasHold rfl se_9_RX10_X10_hasHold kd_26 rfl (Nat.le_of_ble_eq_true rfl) (by decide) ⟨Nat.zero_le _, Nat.zero_le _⟩ rfl rfl ?_
    refine r_if_eq (tgt := 28) hK d_X11_trim_15 (by decide) (fun h8 => ?_) (fun h8 => ?_)
    · have hD := if_t hD h8
      refine r_iconst hK d_X11_trim_28 ci_m1 ?_
      cases hD
      exact r_iret hK d_X11_trim_29
    · have hD := if_f hD h8
      refine r_iload_n hK d_X11_trim_18 rfl rfl ?_
      refine r_iconst hK d_X11_trim_19 ci_1 ?_
      refine r_bipush hK d_X11_trim_20 cb_99 ?_
      obtain ⟨v11, u10, e9, hD⟩ := bd_e hD
      refine r_callS (As := [.int x2, .int (1 : Int32), .int (99 : Int32)]) (st := []) (stk2 := [.int v11]) hK (C_X11_within  e9) d_X11_trim_22 mf_X11_within ml_RX11_123 ss_X11_within rfl (Nat.le_of_ble_eq_true rfl) (by decide) ⟨Nat.zero_le _, Nat.zero_le _⟩ rfl rfl ?_
      refine r_if_ne (tgt := 30) hK d_X11_trim_25 (by decide) (fun h12 => ?_) (fun h12 => ?_)
      · have hD := if_f hD h12
        refine r_iconst hK d_X11_trim_30 ci_0 ?_
        refine r_istore_n hK d_X11_trim_31 rfl (by decide) (ls2 := [.ref 0, .int x1, .int x2, .int (0 : Int32)]) rfl ?_
        exact TL_X11_trim_32 hK  _ _ _ _ _  hD
      · have hD := if_t hD h12
        refine r_iconst hK d_X11_trim_28 ci_m1 ?_
        cases hD
        exact r_iret hK d_X11_trim_29
end S_X11_trim
theorem d_X11_pour_0 : gd cX11_pour 0 (.aload_n 0) 1 1 := ⟨by decide +kernel, rfl⟩
theorem d_X11_pour_1 : gd cX11_pour 1 (.invokevirtual 206) 3 4 := ⟨by decide +kernel, rfl⟩
theorem d_X11_pour_4 : gd cX11_pour 4 (.ifCond .eq 25) 3 7 := ⟨by decide +kernel, rfl⟩
theorem d_X11_pour_7 : gd cX11_pour 7 (.aload_n 0) 1 8 := ⟨by decide +kernel, rfl⟩
theorem d_X11_pour_8 : gd cX11_pour 8 (.getfield 66) 3 11 := ⟨by decide +kernel, rfl⟩
theorem d_X11_pour_11 : gd cX11_pour 11 (.iload_n 1) 1 12 := ⟨by decide +kernel, rfl⟩
theorem d_X11_pour_12 : gd cX11_pour 12 (.iload_n 2) 1 13 := ⟨by decide +kernel, rfl⟩
theorem d_X11_pour_13 : gd cX11_pour 13 (.invokevirtual 219) 3 16 := ⟨by decide +kernel, rfl⟩
theorem d_X11_pour_16 : gd cX11_pour 16 (.ifCond .eq 13) 3 19 := ⟨by decide +kernel, rfl⟩
theorem d_X11_pour_19 : gd cX11_pour 19 (.iload_n 3) 1 20 := ⟨by decide +kernel, rfl⟩
theorem d_X11_pour_20 : gd cX11_pour 20 (.iconst 1) 1 21 := ⟨by decide +kernel, rfl⟩
theorem d_X11_pour_21 : gd cX11_pour 21 (.bipush 99) 2 23 := ⟨by decide +kernel, rfl⟩
theorem d_X11_pour_23 : gd cX11_pour 23 (.invokestatic 123) 3 26 := ⟨by decide +kernel, rfl⟩
theorem d_X11_pour_26 : gd cX11_pour 26 (.ifCond .ne 5) 3 29 := ⟨by decide +kernel, rfl⟩
theorem d_X11_pour_29 : gd cX11_pour 29 (.iconst (-1)) 1 30 := ⟨by decide +kernel, rfl⟩
theorem d_X11_pour_30 : gd cX11_pour 30 .ireturn 1 31 := ⟨by decide +kernel, rfl⟩
theorem d_X11_pour_31 : gd cX11_pour 31 (.aload_n 0) 1 32 := ⟨by decide +kernel, rfl⟩
theorem d_X11_pour_32 : gd cX11_pour 32 (.getfield 66) 3 35 := ⟨by decide +kernel, rfl⟩
theorem d_X11_pour_35 : gd cX11_pour 35 (.getfield 182) 3 38 := ⟨by decide +kernel, rfl⟩
theorem d_X11_pour_38 : gd cX11_pour 38 (.iload_n 1) 1 39 := ⟨by decide +kernel, rfl⟩
theorem d_X11_pour_39 : gd cX11_pour 39 .aaload 1 40 := ⟨by decide +kernel, rfl⟩
theorem d_X11_pour_40 : gd cX11_pour 40 (.astore 4) 2 42 := ⟨by decide +kernel, rfl⟩
theorem d_X11_pour_42 : gd cX11_pour 42 (.iconst 0) 1 43 := ⟨by decide +kernel, rfl⟩
theorem d_X11_pour_43 : gd cX11_pour 43 (.istore 5) 2 45 := ⟨by decide +kernel, rfl⟩
theorem d_X11_pour_45 : gd cX11_pour 45 (.iload 5) 2 47 := ⟨by decide +kernel, rfl⟩
theorem d_X11_pour_47 : gd cX11_pour 47 (.iload_n 3) 1 48 := ⟨by decide +kernel, rfl⟩
theorem d_X11_pour_48 : gd cX11_pour 48 (.if_icmp .ge 50) 3 51 := ⟨by decide +kernel, rfl⟩
theorem d_X11_pour_51 : gd cX11_pour 51 (.aload 4) 2 53 := ⟨by decide +kernel, rfl⟩
theorem d_X11_pour_53 : gd cX11_pour 53 (.getfield 222) 3 56 := ⟨by decide +kernel, rfl⟩
theorem d_X11_pour_56 : gd cX11_pour 56 (.iload_n 2) 1 57 := ⟨by decide +kernel, rfl⟩
theorem d_X11_pour_57 : gd cX11_pour 57 .iaload 1 58 := ⟨by decide +kernel, rfl⟩
theorem d_X11_pour_58 : gd cX11_pour 58 (.aload 4) 2 60 := ⟨by decide +kernel, rfl⟩
theorem d_X11_pour_60 : gd cX11_pour 60 (.invokevirtual 334) 3 63 := ⟨by decide +kernel, rfl⟩
theorem d_X11_pour_63 : gd cX11_pour 63 (.if_icmp .ge 35) 3 66 := ⟨by decide +kernel, rfl⟩
theorem d_X11_pour_66 : gd cX11_pour 66 (.aload 4) 2 68 := ⟨by decide +kernel, rfl⟩
theorem d_X11_pour_68 : gd cX11_pour 68 (.getfield 222) 3 71 := ⟨by decide +kernel, rfl⟩
theorem d_X11_pour_71 : gd cX11_pour 71 (.iload_n 2) 1 72 := ⟨by decide +kernel, rfl⟩
theorem d_X11_pour_72 : gd cX11_pour 72 .dup2 1 73 := ⟨by decide +kernel, rfl⟩
theorem d_X11_pour_73 : gd cX11_pour 73 .iaload 1 74 := ⟨by decide +kernel, rfl⟩
theorem d_X11_pour_74 : gd cX11_pour 74 (.iconst 1) 1 75 := ⟨by decide +kernel, rfl⟩
theorem d_X11_pour_75 : gd cX11_pour 75 .iadd 1 76 := ⟨by decide +kernel, rfl⟩
theorem d_X11_pour_76 : gd cX11_pour 76 .iastore 1 77 := ⟨by decide +kernel, rfl⟩
theorem d_X11_pour_77 : gd cX11_pour 77 (.iinc 5 1) 3 80 := ⟨by decide +kernel, rfl⟩
theorem d_X11_pour_80 : gd cX11_pour 80 (.aload 4) 2 82 := ⟨by decide +kernel, rfl⟩
theorem d_X11_pour_82 : gd cX11_pour 82 (.aload_n 0) 1 83 := ⟨by decide +kernel, rfl⟩
theorem d_X11_pour_83 : gd cX11_pour 83 (.getfield 66) 3 86 := ⟨by decide +kernel, rfl⟩
theorem d_X11_pour_86 : gd cX11_pour 86 (.invokevirtual 256) 3 89 := ⟨by decide +kernel, rfl⟩
theorem d_X11_pour_89 : gd cX11_pour 89 (.invokestatic 337) 3 92 := ⟨by decide +kernel, rfl⟩
theorem d_X11_pour_92 : gd cX11_pour 92 (.invokevirtual 340) 3 95 := ⟨by decide +kernel, rfl⟩
theorem d_X11_pour_95 : gd cX11_pour 95 (.goto (-50)) 3 98 := ⟨by decide +kernel, rfl⟩
theorem d_X11_pour_98 : gd cX11_pour 98 (.iload 5) 2 100 := ⟨by decide +kernel, rfl⟩
theorem d_X11_pour_100 : gd cX11_pour 100 .ireturn 1 101 := ⟨by decide +kernel, rfl⟩
def Bo_X11_pour_45 (q45 : Int32 → Int32 → Nat → Int32 → gs_M → Option (Int32 × gs_M)) (x2 : Int32) (x3 : Int32) (a4 : Nat) (x5 : Int32) (μ : gs_M) : Option (Int32 × gs_M) :=
  if x3 ≤ x5 then (some (x5, μ)) else (ck (inb x2 12) (bd (D_X1_unitsMost a4 μ) (fun v5 u4 => if v5 ≤ (gI μ (a4 + 1) (Int32.toNatClampNeg x2)) then (some (x5, u4)) else (ck (inb x2 12) (ck (inb x2 12) (lt1 (sI u4 (a4 + 1) (Int32.toNatClampNeg x2) ((gI u4 (a4 + 1) (Int32.toNatClampNeg x2)) + (1 : Int32))) (fun u9 => bd (D_X10_lean 26 u9) (fun v12 u11 => bd (D_X11_heldSlope v12 u11) (fun v15 u14 => bd0 (D_X1_restWith a4 v15 u14) (fun u17 => q45 x2 x3 a4 (x5 + (1 : Int32)) u17))))))))))
def L_X11_pour_45  : Nat → Int32 → Int32 → Nat → Int32 → gs_M → Option (Int32 × gs_M)
  | 0 => fun _ _ _ _ _ => none
  | n + 1 => fun x2 x3 a4 x5 μ => Bo_X11_pour_45  (L_X11_pour_45  n) x2 x3 a4 x5 μ
def D_X11_pour (x1 : Int32) (x2 : Int32) (x3 : Int32) (μ : gs_M) : Option (Int32 × gs_M) :=
  bd (D_X11_isReady μ) (fun v3 u2 => if v3 = 0 then (some ((-1 : Int32), u2)) else (bd (D_X10_hasColumn 26 x1 x2 u2) (fun v7 u6 => if v7 = 0 then (some ((-1 : Int32), u6)) else (bd (D_X11_within x3 (1 : Int32) (99 : Int32) u6) (fun v11 u10 => if v11 = 0 then (some ((-1 : Int32), u10)) else (ck (inb x1 4) (L_X11_pour_45 4096 x2 x3 (26 + 2 + 2 * Int32.toNatClampNeg x1) (0 : Int32) u10)))))))
section S_X11_pour
variable {p : Program} {l : Launch} {e : Env} {R : Room} {s : State} {m : MethodId} {args : Array Value} {below : List Frame} {meth : Method} {c : Code} {ad : Nat → Nat} {g : va_G} {tyc : Nat → ClassId}
set_option maxRecDepth 20000 in
theorem To_X11_pour_45  (hK : KC p R s m args meth c ad g tyc RX11 cX11_pour 6 (some .int) 3) {r : Int32} {μ2 : gs_M} {q45 : Int32 → Int32 → Nat → Int32 → gs_M → Option (Int32 × gs_M)} (hq45 : ∀ (x2 : Int32) (x3 : Int32) (a4 : Nat) (x5 : Int32) (μ : gs_M), kd a4 = 1 → q45 x2 x3 a4 x5 μ = some (r, μ2) → WJ p l e R s m args below meth c 0 0 (MQ below (gs_Q ad g tyc (some (.int r)) μ2) args s 0 0 (gs_A ad)) ad g tyc 6 45 [.ref 0, gs_J, .int x2, .int x3, .ref a4, .int x5] [] μ) {x2 : Int32} {x3 : Int32} {a4 : Nat} {x5 : Int32} {μ : gs_M} (hk4 : kd a4 = 1) (hD : Bo_X11_pour_45 q45 x2 x3 a4 x5 μ = some (r, μ2)) : WJ p l e R s m args below meth c 0 0 (MQ below (gs_Q ad g tyc (some (.int r)) μ2) args s 0 0 (gs_A ad)) ad g tyc 6 45 [.ref 0, gs_J, .int x2, .int x3, .ref a4, .int x5] [] μ := by
  unfold Bo_X11_pour_45 at hD
  refine r_iload hK d_X11_pour_45 rfl ?_
  refine r_iload_n hK d_X11_pour_47 rfl rfl ?_
  refine r_icmp_ge (tgt := 98) hK d_X11_pour_48 (by decide) (fun h1 => ?_) (fun h1 => ?_)
  · have hD := if_t hD h1
    refine r_iload hK d_X11_pour_98 rfl ?_
    cases hD
    exact r_iret hK d_X11_pour_100
  · have hD := if_f hD h1
    refine r_aload hK d_X11_pour_51 rfl ?_
    refine r_getR hK d_X11_pour_53 fl_RX11_222_1 rfl hk4 ?_
    refine r_ref (b := (a4 + 1)) ((ly_hold _ hk4).1) ?_
    refine r_iload_n hK d_X11_pour_56 rfl rfl ?_
    obtain ⟨h2, hD⟩ := ck_e hD
    refine r_iald hK d_X11_pour_57 ((ly_hold _ hk4).2.1) ((ly_hold _ hk4).2.2) (inb_in h2) ?_
    refine r_aload hK d_X11_pour_58 rfl ?_
    obtain ⟨v5, u4, e3, hD⟩ := bd_e hD
    refine r_callV (As := []) (st := [.int (gI μ (a4 + 1) (Int32.toNatClampNeg x2))]) (stk2 := [.int v5, .int (gI μ (a4 + 1) (Int32.toNatClampNeg x2))]) hK (C_X1_unitsMost hk4 e3) d_X11_pour_60 mf_X1_unitsMost ml_RX11_334 im_X1_unitsMost rfl se_1_RX1_X1_unitsMost hk4 rfl (Nat.le_of_ble_eq_true rfl) (by decide) ⟨Nat.zero_le _, Nat.zero_le _⟩ rfl rfl ?_
    refine r_icmp_ge (tgt := 98) hK d_X11_pour_63 (by decide) (fun h6 => ?_) (fun h6 => ?_)
    · have hD := if_t hD h6
      refine r_iload hK d_X11_pour_98 rfl ?_
      cases hD
      exact r_iret hK d_X11_pour_100
    · have hD := if_f hD h6
      refine r_aload hK d_X11_pour_66 rfl ?_
      refine r_getR hK d_X11_pour_68 fl_RX11_222_1 rfl hk4 ?_
      refine r_ref (b := (a4 + 1)) ((ly_hold _ hk4).1) ?_
      refine r_iload_n hK d_X11_pour_71 rfl rfl ?_
      refine r_dup2 hK d_X11_pour_72 rfl rfl ?_
      obtain ⟨h7, hD⟩ := ck_e hD
      refine r_iald hK d_X11_pour_73 ((ly_hold _ hk4).2.1) ((ly_hold _ hk4).2.2) (inb_in h7) ?_
      refine r_iconst hK d_X11_pour_74 ci_1 ?_
      refine r_iadd hK d_X11_pour_75 ?_
      obtain ⟨h8, hD⟩ := ck_e hD
      refine r_iast hK d_X11_pour_76 ((ly_hold _ hk4).2.1) ((ly_hold _ hk4).2.2) (inb_in h8) ?_
      refine r_ltm hD (fun u9 hD => ?_)
      refine r_iinc hK d_X11_pour_77 rfl (v := x5 + (1 : Int32)) (by rw [ci_1]) (by decide) (ls2 := [.ref 0, gs_J, .int x2, .int x3, .ref a4, .int (x5 + (1 : Int32))]) rfl ?_
      refine r_aload hK d_X11_pour_80 rfl ?_
      refine r_aload_n hK d_X11_pour_82 rfl rfl ?_
      refine r_getR hK d_X11_pour_83 fl_RX11_66_10 rfl kd_0 ?_
      refine r_ref (b := 26) R0_0_8 ?_
      obtain ⟨v12, u11, e10, hD⟩ := bd_e hD
      refine r_callV (As := []) (st := [.ref a4]) (stk2 := [.int v12, .ref a4]) hK (C_X10_lean kd_26 e10) d_X11_pour_86 mf_X10_lean ml_RX11_256 im_X10_lean rfl se_9_RX10_X10_lean kd_26 rfl (Nat.le_of_ble_eq_true rfl) (by decide) ⟨Nat.zero_le _, Nat.zero_le _⟩ rfl rfl ?_
      obtain ⟨v15, u14, e13, hD⟩ := bd_e hD
      refine r_callS (As := [.int v12]) (st := [.ref a4]) (stk2 := [.int v15, .ref a4]) hK (C_X11_heldSlope  e13) d_X11_pour_89 mf_X11_heldSlope ml_RX11_337 ss_X11_heldSlope rfl (Nat.le_of_ble_eq_true rfl) (by decide) ⟨Nat.zero_le _, Nat.zero_le _⟩ rfl rfl ?_
      obtain ⟨u17, e16, hD⟩ := bd0_e hD
      refine r_callV (As := [.int v15]) (st := []) (stk2 := []) hK (C_X1_restWith hk4 e16) d_X11_pour_92 mf_X1_restWith ml_RX11_340 im_X1_restWith rfl se_1_RX1_X1_restWith hk4 rfl (Nat.le_of_ble_eq_true rfl) (by decide) ⟨Nat.zero_le _, Nat.zero_le _⟩ rfl rfl ?_
      refine r_goto (tgt := 45) hK d_X11_pour_95 (by decide) ?_
      exact hq45 _ _ _ _ _ hk4 hD
set_option maxRecDepth 20000 in
theorem TL_X11_pour_45  (hK : KC p R s m args meth c ad g tyc RX11 cX11_pour 6 (some .int) 3) {r : Int32} {μ2 : gs_M}   : ∀ (n : Nat) (x2 : Int32) (x3 : Int32) (a4 : Nat) (x5 : Int32) (μ : gs_M), kd a4 = 1 → L_X11_pour_45  n x2 x3 a4 x5 μ = some (r, μ2) → WJ p l e R s m args below meth c 0 0 (MQ below (gs_Q ad g tyc (some (.int r)) μ2) args s 0 0 (gs_A ad)) ad g tyc 6 45 [.ref 0, gs_J, .int x2, .int x3, .ref a4, .int x5] [] μ := by
  intro n
  induction n with
  | zero => intro x2 x3 a4 x5 μ hk4 hD; cases hD
  | succ n ih => intro x2 x3 a4 x5 μ hk4 hD; exact To_X11_pour_45 hK  ih hk4 hD
set_option maxRecDepth 20000 in
theorem C_X11_pour  {x1 : Int32} {x2 : Int32} {x3 : Int32} {μ : gs_M} {r : Int32} {μ2 : gs_M}  (hD : D_X11_pour x1 x2 x3 μ = some (r, μ2)) : CALL yX11_pour cX11_pour 6 (some .int) 3 [.ref 0, .int x1, .int x2, .int x3] μ (some (.int r)) μ2 := by
  unfold D_X11_pour at hD
  refine gs_enter mf_X11_pour (Nat.le_of_ble_eq_true rfl) (ls := [.ref 0, .int x1, .int x2, .int x3, gs_J, gs_J]) rfl (fun p l e R s m args below meth c ad g tyc hK => ?_)
  have hK : KC p R s m args meth c ad g tyc RX11 cX11_pour 6 (some .int) 3 := hK
  refine r_aload_n hK d_X11_pour_0 rfl rfl ?_
  obtain ⟨v3, u2, e1, hD⟩ := bd_e hD
  refine r_callV (As := []) (st := []) (stk2 := [.int v3]) hK (C_X11_isReady  e1) d_X11_pour_1 mf_X11_isReady ml_RX11_206 im_X11_isReady rfl se_10_RX11_X11_isReady kd_0 rfl (Nat.le_of_ble_eq_true rfl) (by decide) ⟨Nat.zero_le _, Nat.zero_le _⟩ rfl rfl ?_
  refine r_if_eq (tgt := 29) hK d_X11_pour_4 (by decide) (fun h4 => ?_) (fun h4 => ?_)
  · have hD := if_t hD h4
    refine r_iconst hK d_X11_pour_29 ci_m1 ?_
    cases hD
    exact r_iret hK d_X11_pour_30
  · have hD := if_f hD h4
    refine r_aload_n hK d_X11_pour_7 rfl rfl ?_
    refine r_getR hK d_X11_pour_8 fl_RX11_66_10 rfl kd_0 ?_
    refine r_ref (b := 26) R0_0_8 ?_
    refine r_iload_n hK d_X11_pour_11 rfl rfl ?_
    refine r_iload_n hK d_X11_pour_12 rfl rfl ?_
    obtain ⟨v7, u6, e5, hD⟩ := bd_e hD
    refine r_callV (As := [.int x1, .int x2]) (st := []) (stk2 := [.int v7]) hK (C_X10_hasColumn kd_26 e5) d_X11_pour_13 mf_X10_hasColumn ml_RX11_219 im_X10_hasColumn rfl se_9_RX10_X10_hasColumn kd_26 rfl (Nat.le_of_ble_eq_true rfl) (by decide) ⟨Nat.zero_le _, Nat.zero_le _⟩ rfl rfl ?_
    refine r_if_eq (tgt := 29) hK d_X11_pour_16 (by decide) (fun h8 => ?_) (fun h8 => ?_)
    · have hD := if_t hD h8
      refine r_iconst hK d_X11_pour_29 ci_m1 ?_
      cases hD
      exact r_iret hK d_X11_pour_30
    · have hD := if_f hD h8
      refine r_iload_n hK d_X11_pour_19 rfl rfl ?_
      refine r_iconst hK d_X11_pour_20 ci_1 ?_
      refine r_bipush hK d_X11_pour_21 cb_99 ?_
      obtain ⟨v11, u10, e9, hD⟩ := bd_e hD
      refine r_callS (As := [.int x3, .int (1 : Int32), .int (99 : Int32)]) (st := []) (stk2 := [.int v11]) hK (C_X11_within  e9) d_X11_pour_23 mf_X11_within ml_RX11_123 ss_X11_within rfl (Nat.le_of_ble_eq_true rfl) (by decide) ⟨Nat.zero_le _, Nat.zero_le _⟩ rfl rfl ?_
      refine r_if_ne (tgt := 31) hK d_X11_pour_26 (by decide) (fun h12 => ?_) (fun h12 => ?_)
      · have hD := if_f hD h12
        refine r_aload_n hK d_X11_pour_31 rfl rfl ?_
        refine r_getR hK d_X11_pour_32 fl_RX11_66_10 rfl kd_0 ?_
        refine r_ref (b := 26) R0_0_8 ?_
        refine r_getR hK d_X11_pour_35 fl_RX11_182_9 rfl kd_26 ?_
        refine r_ref (b := (26 + 1)) ((ly_ves _ kd_26).1.1) ?_
        refine r_iload_n hK d_X11_pour_38 rfl rfl ?_
        obtain ⟨h13, hD⟩ := ck_e hD
        refine r_aaldH hK d_X11_pour_39 ((ly_ves _ kd_26).1.2.1) ((ly_ves _ kd_26).1.2.2) (inb_in h13) ?_
        refine r_ref (b := (26 + 2 + 2 * Int32.toNatClampNeg x1)) ((ly_vh _ kd_26 _ (inb_lt h13)).1) ?_
        refine r_astore hK d_X11_pour_40 (by decide) (ls2 := [.ref 0, .int x1, .int x2, .int x3, .ref (26 + 2 + 2 * Int32.toNatClampNeg x1), gs_J]) rfl ?_
        refine r_iconst hK d_X11_pour_42 ci_0 ?_
        refine r_istore hK d_X11_pour_43 (by decide) (ls2 := [.ref 0, .int x1, .int x2, .int x3, .ref (26 + 2 + 2 * Int32.toNatClampNeg x1), .int (0 : Int32)]) rfl ?_
        refine r_junk [true, false, true, true, true, true] (ls2 := [.ref 0, gs_J, .int x2, .int x3, .ref (26 + 2 + 2 * Int32.toNatClampNeg x1), .int (0 : Int32)]) rfl ?_
        exact TL_X11_pour_45 hK  _ _ _ _ _ _ ((ly_vh _ kd_26 _ (inb_lt h13)).2) hD
      · have hD := if_t hD h12
        refine r_iconst hK d_X11_pour_29 ci_m1 ?_
        cases hD
        exact r_iret hK d_X11_pour_30
end S_X11_pour
theorem d_X11_take_0 : gd cX11_take 0 (.aload_n 0) 1 1 := ⟨by decide +kernel, rfl⟩
theorem d_X11_take_1 : gd cX11_take 1 (.invokevirtual 206) 3 4 := ⟨by decide +kernel, rfl⟩
theorem d_X11_take_4 : gd cX11_take 4 (.ifCond .eq 25) 3 7 := ⟨by decide +kernel, rfl⟩
theorem d_X11_take_7 : gd cX11_take 7 (.aload_n 0) 1 8 := ⟨by decide +kernel, rfl⟩
theorem d_X11_take_8 : gd cX11_take 8 (.getfield 66) 3 11 := ⟨by decide +kernel, rfl⟩
theorem d_X11_take_11 : gd cX11_take 11 (.iload_n 1) 1 12 := ⟨by decide +kernel, rfl⟩
theorem d_X11_take_12 : gd cX11_take 12 (.iload_n 2) 1 13 := ⟨by decide +kernel, rfl⟩
theorem d_X11_take_13 : gd cX11_take 13 (.invokevirtual 219) 3 16 := ⟨by decide +kernel, rfl⟩
theorem d_X11_take_16 : gd cX11_take 16 (.ifCond .eq 13) 3 19 := ⟨by decide +kernel, rfl⟩
theorem d_X11_take_19 : gd cX11_take 19 (.iload_n 3) 1 20 := ⟨by decide +kernel, rfl⟩
theorem d_X11_take_20 : gd cX11_take 20 (.iconst 1) 1 21 := ⟨by decide +kernel, rfl⟩
theorem d_X11_take_21 : gd cX11_take 21 (.bipush 99) 2 23 := ⟨by decide +kernel, rfl⟩
theorem d_X11_take_23 : gd cX11_take 23 (.invokestatic 123) 3 26 := ⟨by decide +kernel, rfl⟩
theorem d_X11_take_26 : gd cX11_take 26 (.ifCond .ne 5) 3 29 := ⟨by decide +kernel, rfl⟩
theorem d_X11_take_29 : gd cX11_take 29 (.iconst (-1)) 1 30 := ⟨by decide +kernel, rfl⟩
theorem d_X11_take_30 : gd cX11_take 30 .ireturn 1 31 := ⟨by decide +kernel, rfl⟩
theorem d_X11_take_31 : gd cX11_take 31 (.aload_n 0) 1 32 := ⟨by decide +kernel, rfl⟩
theorem d_X11_take_32 : gd cX11_take 32 (.getfield 66) 3 35 := ⟨by decide +kernel, rfl⟩
theorem d_X11_take_35 : gd cX11_take 35 (.getfield 182) 3 38 := ⟨by decide +kernel, rfl⟩
theorem d_X11_take_38 : gd cX11_take 38 (.iload_n 1) 1 39 := ⟨by decide +kernel, rfl⟩
theorem d_X11_take_39 : gd cX11_take 39 .aaload 1 40 := ⟨by decide +kernel, rfl⟩
theorem d_X11_take_40 : gd cX11_take 40 (.astore 4) 2 42 := ⟨by decide +kernel, rfl⟩
theorem d_X11_take_42 : gd cX11_take 42 (.iload_n 3) 1 43 := ⟨by decide +kernel, rfl⟩
theorem d_X11_take_43 : gd cX11_take 43 (.aload 4) 2 45 := ⟨by decide +kernel, rfl⟩
theorem d_X11_take_45 : gd cX11_take 45 (.getfield 222) 3 48 := ⟨by decide +kernel, rfl⟩
theorem d_X11_take_48 : gd cX11_take 48 (.iload_n 2) 1 49 := ⟨by decide +kernel, rfl⟩
theorem d_X11_take_49 : gd cX11_take 49 .iaload 1 50 := ⟨by decide +kernel, rfl⟩
theorem d_X11_take_50 : gd cX11_take 50 (.invokestatic 343) 3 53 := ⟨by decide +kernel, rfl⟩
theorem d_X11_take_53 : gd cX11_take 53 (.istore 5) 2 55 := ⟨by decide +kernel, rfl⟩
theorem d_X11_take_55 : gd cX11_take 55 (.aload 4) 2 57 := ⟨by decide +kernel, rfl⟩
theorem d_X11_take_57 : gd cX11_take 57 (.getfield 222) 3 60 := ⟨by decide +kernel, rfl⟩
theorem d_X11_take_60 : gd cX11_take 60 (.iload_n 2) 1 61 := ⟨by decide +kernel, rfl⟩
theorem d_X11_take_61 : gd cX11_take 61 .dup2 1 62 := ⟨by decide +kernel, rfl⟩
theorem d_X11_take_62 : gd cX11_take 62 .iaload 1 63 := ⟨by decide +kernel, rfl⟩
theorem d_X11_take_63 : gd cX11_take 63 (.iload 5) 2 65 := ⟨by decide +kernel, rfl⟩
theorem d_X11_take_65 : gd cX11_take 65 .isub 1 66 := ⟨by decide +kernel, rfl⟩
theorem d_X11_take_66 : gd cX11_take 66 .iastore 1 67 := ⟨by decide +kernel, rfl⟩
theorem d_X11_take_67 : gd cX11_take 67 (.aload 4) 2 69 := ⟨by decide +kernel, rfl⟩
theorem d_X11_take_69 : gd cX11_take 69 (.aload_n 0) 1 70 := ⟨by decide +kernel, rfl⟩
theorem d_X11_take_70 : gd cX11_take 70 (.getfield 66) 3 73 := ⟨by decide +kernel, rfl⟩
theorem d_X11_take_73 : gd cX11_take 73 (.invokevirtual 256) 3 76 := ⟨by decide +kernel, rfl⟩
theorem d_X11_take_76 : gd cX11_take 76 (.invokestatic 337) 3 79 := ⟨by decide +kernel, rfl⟩
theorem d_X11_take_79 : gd cX11_take 79 (.invokevirtual 340) 3 82 := ⟨by decide +kernel, rfl⟩
theorem d_X11_take_82 : gd cX11_take 82 (.iload 5) 2 84 := ⟨by decide +kernel, rfl⟩
theorem d_X11_take_84 : gd cX11_take 84 .ireturn 1 85 := ⟨by decide +kernel, rfl⟩
def D_X11_take (x1 : Int32) (x2 : Int32) (x3 : Int32) (μ : gs_M) : Option (Int32 × gs_M) :=
  bd (D_X11_isReady μ) (fun v3 u2 => if v3 = 0 then (some ((-1 : Int32), u2)) else (bd (D_X10_hasColumn 26 x1 x2 u2) (fun v7 u6 => if v7 = 0 then (some ((-1 : Int32), u6)) else (bd (D_X11_within x3 (1 : Int32) (99 : Int32) u6) (fun v11 u10 => if v11 = 0 then (some ((-1 : Int32), u10)) else (ck (inb x1 4) (ck (inb x2 12) (lt1 (if (gI u10 ((26 + 2 + 2 * Int32.toNatClampNeg x1) + 1) (Int32.toNatClampNeg x2)) < x3 then (gI u10 ((26 + 2 + 2 * Int32.toNatClampNeg x1) + 1) (Int32.toNatClampNeg x2)) else x3) (fun v15 => ck (inb x2 12) (ck (inb x2 12) (lt1 (sI u10 ((26 + 2 + 2 * Int32.toNatClampNeg x1) + 1) (Int32.toNatClampNeg x2) ((gI u10 ((26 + 2 + 2 * Int32.toNatClampNeg x1) + 1) (Int32.toNatClampNeg x2)) - v15)) (fun u18 => bd (D_X10_lean 26 u18) (fun v21 u20 => bd (D_X11_heldSlope v21 u20) (fun v24 u23 => bd0 (D_X1_restWith (26 + 2 + 2 * Int32.toNatClampNeg x1) v24 u23) (fun u26 => some (v15, u26))))))))))))))))
section S_X11_take
variable {p : Program} {l : Launch} {e : Env} {R : Room} {s : State} {m : MethodId} {args : Array Value} {below : List Frame} {meth : Method} {c : Code} {ad : Nat → Nat} {g : va_G} {tyc : Nat → ClassId}
set_option maxRecDepth 20000 in
theorem C_X11_take  {x1 : Int32} {x2 : Int32} {x3 : Int32} {μ : gs_M} {r : Int32} {μ2 : gs_M}  (hD : D_X11_take x1 x2 x3 μ = some (r, μ2)) : CALL yX11_take cX11_take 6 (some .int) 3 [.ref 0, .int x1, .int x2, .int x3] μ (some (.int r)) μ2 := by
  unfold D_X11_take at hD
  refine gs_enter mf_X11_take (Nat.le_of_ble_eq_true rfl) (ls := [.ref 0, .int x1, .int x2, .int x3, gs_J, gs_J]) rfl (fun p l e R s m args below meth c ad g tyc hK => ?_)
  have hK : KC p R s m args meth c ad g tyc RX11 cX11_take 6 (some .int) 3 := hK
  refine r_aload_n hK d_X11_take_0 rfl rfl ?_
  obtain ⟨v3, u2, e1, hD⟩ := bd_e hD
  refine r_callV (As := []) (st := []) (stk2 := [.int v3]) hK (C_X11_isReady  e1) d_X11_take_1 mf_X11_isReady ml_RX11_206 im_X11_isReady rfl se_10_RX11_X11_isReady kd_0 rfl (Nat.le_of_ble_eq_true rfl) (by decide) ⟨Nat.zero_le _, Nat.zero_le _⟩ rfl rfl ?_
  refine r_if_eq (tgt := 29) hK d_X11_take_4 (by decide) (fun h4 => ?_) (fun h4 => ?_)
  · have hD := if_t hD h4
    refine r_iconst hK d_X11_take_29 ci_m1 ?_
    cases hD
    exact r_iret hK d_X11_take_30
  · have hD := if_f hD h4
    refine r_aload_n hK d_X11_take_7 rfl rfl ?_
    refine r_getR hK d_X11_take_8 fl_RX11_66_10 rfl kd_0 ?_
    refine r_ref (b := 26) R0_0_8 ?_
    refine r_iload_n hK d_X11_take_11 rfl rfl ?_
    refine r_iload_n hK d_X11_take_12 rfl rfl ?_
    obtain ⟨v7, u6, e5, hD⟩ := bd_e hD
    refine r_callV (As := [.int x1, .int x2]) (st := []) (stk2 := [.int v7]) hK (C_X10_hasColumn kd_26 e5) d_X11_take_13 mf_X10_hasColumn ml_RX11_219 im_X10_hasColumn rfl se_9_RX10_X10_hasColumn kd_26 rfl (Nat.le_of_ble_eq_true rfl) (by decide) ⟨Nat.zero_le _, Nat.zero_le _⟩ rfl rfl ?_
    refine r_if_eq (tgt := 29) hK d_X11_take_16 (by decide) (fun h8 => ?_) (fun h8 => ?_)
    · have hD := if_t hD h8
      refine r_iconst hK d_X11_take_29 ci_m1 ?_
      cases hD
      exact r_iret hK d_X11_take_30
    · have hD := if_f hD h8
      refine r_iload_n hK d_X11_take_19 rfl rfl ?_
      refine r_iconst hK d_X11_take_20 ci_1 ?_
      refine r_bipush hK d_X11_take_21 cb_99 ?_
      obtain ⟨v11, u10, e9, hD⟩ := bd_e hD
      refine r_callS (As := [.int x3, .int (1 : Int32), .int (99 : Int32)]) (st := []) (stk2 := [.int v11]) hK (C_X11_within  e9) d_X11_take_23 mf_X11_within ml_RX11_123 ss_X11_within rfl (Nat.le_of_ble_eq_true rfl) (by decide) ⟨Nat.zero_le _, Nat.zero_le _⟩ rfl rfl ?_
      refine r_if_ne (tgt := 31) hK d_X11_take_26 (by decide) (fun h12 => ?_) (fun h12 => ?_)
      · have hD := if_f hD h12
        refine r_aload_n hK d_X11_take_31 rfl rfl ?_
        refine r_getR hK d_X11_take_32 fl_RX11_66_10 rfl kd_0 ?_
        refine r_ref (b := 26) R0_0_8 ?_
        refine r_getR hK d_X11_take_35 fl_RX11_182_9 rfl kd_26 ?_
        refine r_ref (b := (26 + 1)) ((ly_ves _ kd_26).1.1) ?_
        refine r_iload_n hK d_X11_take_38 rfl rfl ?_
        obtain ⟨h13, hD⟩ := ck_e hD
        refine r_aaldH hK d_X11_take_39 ((ly_ves _ kd_26).1.2.1) ((ly_ves _ kd_26).1.2.2) (inb_in h13) ?_
        refine r_ref (b := (26 + 2 + 2 * Int32.toNatClampNeg x1)) ((ly_vh _ kd_26 _ (inb_lt h13)).1) ?_
        refine r_astore hK d_X11_take_40 (by decide) (ls2 := [.ref 0, .int x1, .int x2, .int x3, .ref (26 + 2 + 2 * Int32.toNatClampNeg x1), gs_J]) rfl ?_
        refine r_iload_n hK d_X11_take_42 rfl rfl ?_
        refine r_aload hK d_X11_take_43 rfl ?_
        refine r_getR hK d_X11_take_45 fl_RX11_222_1 rfl ((ly_vh _ kd_26 _ (inb_lt h13)).2) ?_
        refine r_ref (b := ((26 + 2 + 2 * Int32.toNatClampNeg x1) + 1)) ((ly_hold _ (ly_vh _ kd_26 _ (inb_lt h13)).2).1) ?_
        refine r_iload_n hK d_X11_take_48 rfl rfl ?_
        obtain ⟨h14, hD⟩ := ck_e hD
        refine r_iald hK d_X11_take_49 ((ly_hold _ (ly_vh _ kd_26 _ (inb_lt h13)).2).2.1) ((ly_hold _ (ly_vh _ kd_26 _ (inb_lt h13)).2).2.2) (inb_in h14) ?_
        refine r_mmin hK d_X11_take_50 mm_RX11_343 ms_min mi_0 mc_min (Nat.le_of_ble_eq_true rfl) (by decide) ⟨Nat.zero_le _, Nat.zero_le _⟩ ?_
        refine r_lti hD (fun v15 hD => ?_)
        refine r_istore hK d_X11_take_53 (by decide) (ls2 := [.ref 0, .int x1, .int x2, .int x3, .ref (26 + 2 + 2 * Int32.toNatClampNeg x1), .int v15]) rfl ?_
        refine r_aload hK d_X11_take_55 rfl ?_
        refine r_getR hK d_X11_take_57 fl_RX11_222_1 rfl ((ly_vh _ kd_26 _ (inb_lt h13)).2) ?_
        refine r_ref (b := ((26 + 2 + 2 * Int32.toNatClampNeg x1) + 1)) ((ly_hold _ (ly_vh _ kd_26 _ (inb_lt h13)).2).1) ?_
        refine r_iload_n hK d_X11_take_60 rfl rfl ?_
        refine r_dup2 hK d_X11_take_61 rfl rfl ?_
        obtain ⟨h16, hD⟩ := ck_e hD
        refine r_iald hK d_X11_take_62 ((ly_hold _ (ly_vh _ kd_26 _ (inb_lt h13)).2).2.1) ((ly_hold _ (ly_vh _ kd_26 _ (inb_lt h13)).2).2.2) (inb_in h16) ?_
        refine r_iload hK d_X11_take_63 rfl ?_
        refine r_isub hK d_X11_take_65 ?_
        obtain ⟨h17, hD⟩ := ck_e hD
        refine r_iast hK d_X11_take_66 ((ly_hold _ (ly_vh _ kd_26 _ (inb_lt h13)).2).2.1) ((ly_hold _ (ly_vh _ kd_26 _ (inb_lt h13)).2).2.2) (inb_in h17) ?_
        refine r_ltm hD (fun u18 hD => ?_)
        refine r_aload hK d_X11_take_67 rfl ?_
        refine r_aload_n hK d_X11_take_69 rfl rfl ?_
        refine r_getR hK d_X11_take_70 fl_RX11_66_10 rfl kd_0 ?_
        refine r_ref (b := 26) R0_0_8 ?_
        obtain ⟨v21, u20, e19, hD⟩ := bd_e hD
        refine r_callV (As := []) (st := [.ref (26 + 2 + 2 * Int32.toNatClampNeg x1)]) (stk2 := [.int v21, .ref (26 + 2 + 2 * Int32.toNatClampNeg x1)]) hK (C_X10_lean kd_26 e19) d_X11_take_73 mf_X10_lean ml_RX11_256 im_X10_lean rfl se_9_RX10_X10_lean kd_26 rfl (Nat.le_of_ble_eq_true rfl) (by decide) ⟨Nat.zero_le _, Nat.zero_le _⟩ rfl rfl ?_
        obtain ⟨v24, u23, e22, hD⟩ := bd_e hD
        refine r_callS (As := [.int v21]) (st := [.ref (26 + 2 + 2 * Int32.toNatClampNeg x1)]) (stk2 := [.int v24, .ref (26 + 2 + 2 * Int32.toNatClampNeg x1)]) hK (C_X11_heldSlope  e22) d_X11_take_76 mf_X11_heldSlope ml_RX11_337 ss_X11_heldSlope rfl (Nat.le_of_ble_eq_true rfl) (by decide) ⟨Nat.zero_le _, Nat.zero_le _⟩ rfl rfl ?_
        obtain ⟨u26, e25, hD⟩ := bd0_e hD
        refine r_callV (As := [.int v24]) (st := []) (stk2 := []) hK (C_X1_restWith ((ly_vh _ kd_26 _ (inb_lt h13)).2) e25) d_X11_take_79 mf_X1_restWith ml_RX11_340 im_X1_restWith rfl se_1_RX1_X1_restWith ((ly_vh _ kd_26 _ (inb_lt h13)).2) rfl (Nat.le_of_ble_eq_true rfl) (by decide) ⟨Nat.zero_le _, Nat.zero_le _⟩ rfl rfl ?_
        refine r_iload hK d_X11_take_82 rfl ?_
        cases hD
        exact r_iret hK d_X11_take_84
      · have hD := if_t hD h12
        refine r_iconst hK d_X11_take_29 ci_m1 ?_
        cases hD
        exact r_iret hK d_X11_take_30
end S_X11_take
theorem d_X11_heel_0 : gd cX11_heel 0 (.aload_n 0) 1 1 := ⟨by decide +kernel, rfl⟩
theorem d_X11_heel_1 : gd cX11_heel 1 (.invokevirtual 206) 3 4 := ⟨by decide +kernel, rfl⟩
theorem d_X11_heel_4 : gd cX11_heel 4 (.ifCond .eq 25) 3 7 := ⟨by decide +kernel, rfl⟩
theorem d_X11_heel_7 : gd cX11_heel 7 (.iload_n 1) 1 8 := ⟨by decide +kernel, rfl⟩
theorem d_X11_heel_8 : gd cX11_heel 8 (.bipush (-40)) 2 10 := ⟨by decide +kernel, rfl⟩
theorem d_X11_heel_10 : gd cX11_heel 10 (.bipush 40) 2 12 := ⟨by decide +kernel, rfl⟩
theorem d_X11_heel_12 : gd cX11_heel 12 (.invokestatic 123) 3 15 := ⟨by decide +kernel, rfl⟩
theorem d_X11_heel_15 : gd cX11_heel 15 (.ifCond .eq 14) 3 18 := ⟨by decide +kernel, rfl⟩
theorem d_X11_heel_18 : gd cX11_heel 18 (.aload_n 0) 1 19 := ⟨by decide +kernel, rfl⟩
theorem d_X11_heel_19 : gd cX11_heel 19 (.getfield 66) 3 22 := ⟨by decide +kernel, rfl⟩
theorem d_X11_heel_22 : gd cX11_heel 22 (.iload_n 1) 1 23 := ⟨by decide +kernel, rfl⟩
theorem d_X11_heel_23 : gd cX11_heel 23 (.invokevirtual 346) 3 26 := ⟨by decide +kernel, rfl⟩
theorem d_X11_heel_26 : gd cX11_heel 26 (.goto 4) 3 29 := ⟨by decide +kernel, rfl⟩
theorem d_X11_heel_29 : gd cX11_heel 29 (.iconst (-1)) 1 30 := ⟨by decide +kernel, rfl⟩
theorem d_X11_heel_30 : gd cX11_heel 30 .ireturn 1 31 := ⟨by decide +kernel, rfl⟩
def B_X11_heel_29   (μ : gs_M) : Option (Int32 × gs_M) :=
  some ((-1 : Int32), μ)
def D_X11_heel (x1 : Int32) (μ : gs_M) : Option (Int32 × gs_M) :=
  bd (D_X11_isReady μ) (fun v3 u2 => if v3 = 0 then (B_X11_heel_29 u2) else (bd (D_X11_within x1 (-40 : Int32) (40 : Int32) u2) (fun v7 u6 => if v7 = 0 then (B_X11_heel_29 u6) else (bd (D_X10_heelBy 26 x1 u6) (fun v11 u10 => some (v11, u10))))))
section S_X11_heel
variable {p : Program} {l : Launch} {e : Env} {R : Room} {s : State} {m : MethodId} {args : Array Value} {below : List Frame} {meth : Method} {c : Code} {ad : Nat → Nat} {g : va_G} {tyc : Nat → ClassId}
set_option maxRecDepth 20000 in
theorem T_X11_heel_29  (hK : KC p R s m args meth c ad g tyc RX11 cX11_heel 2 (some .int) 5) {r : Int32} {μ2 : gs_M}    {μ : gs_M}  (hD : B_X11_heel_29   μ = some (r, μ2)) : WJ p l e R s m args below meth c 0 0 (MQ below (gs_Q ad g tyc (some (.int r)) μ2) args s 0 0 (gs_A ad)) ad g tyc 2 29 [gs_J, gs_J] [] μ := by
  unfold B_X11_heel_29 at hD
  refine r_iconst hK d_X11_heel_29 ci_m1 ?_
  cases hD
  exact r_iret hK d_X11_heel_30
set_option maxRecDepth 20000 in
theorem C_X11_heel  {x1 : Int32} {μ : gs_M} {r : Int32} {μ2 : gs_M}  (hD : D_X11_heel x1 μ = some (r, μ2)) : CALL yX11_heel cX11_heel 2 (some .int) 5 [.ref 0, .int x1] μ (some (.int r)) μ2 := by
  unfold D_X11_heel at hD
  refine gs_enter mf_X11_heel (Nat.le_of_ble_eq_true rfl) (ls := [.ref 0, .int x1]) rfl (fun p l e R s m args below meth c ad g tyc hK => ?_)
  have hK : KC p R s m args meth c ad g tyc RX11 cX11_heel 2 (some .int) 5 := hK
  refine r_aload_n hK d_X11_heel_0 rfl rfl ?_
  obtain ⟨v3, u2, e1, hD⟩ := bd_e hD
  refine r_callV (As := []) (st := []) (stk2 := [.int v3]) hK (C_X11_isReady  e1) d_X11_heel_1 mf_X11_isReady ml_RX11_206 im_X11_isReady rfl se_10_RX11_X11_isReady kd_0 rfl (Nat.le_of_ble_eq_true rfl) (by decide) ⟨Nat.zero_le _, Nat.zero_le _⟩ rfl rfl ?_
  refine r_if_eq (tgt := 29) hK d_X11_heel_4 (by decide) (fun h4 => ?_) (fun h4 => ?_)
  · have hD := if_t hD h4
    refine r_junk [false, false] (ls2 := [gs_J, gs_J]) rfl ?_
    exact T_X11_heel_29 hK   hD
  · have hD := if_f hD h4
    refine r_iload_n hK d_X11_heel_7 rfl rfl ?_
    refine r_bipush hK d_X11_heel_8 cb_m40 ?_
    refine r_bipush hK d_X11_heel_10 cb_40 ?_
    obtain ⟨v7, u6, e5, hD⟩ := bd_e hD
    refine r_callS (As := [.int x1, .int (-40 : Int32), .int (40 : Int32)]) (st := []) (stk2 := [.int v7]) hK (C_X11_within  e5) d_X11_heel_12 mf_X11_within ml_RX11_123 ss_X11_within rfl (Nat.le_of_ble_eq_true rfl) (by decide) ⟨Nat.zero_le _, Nat.zero_le _⟩ rfl rfl ?_
    refine r_if_eq (tgt := 29) hK d_X11_heel_15 (by decide) (fun h8 => ?_) (fun h8 => ?_)
    · have hD := if_t hD h8
      refine r_junk [false, false] (ls2 := [gs_J, gs_J]) rfl ?_
      exact T_X11_heel_29 hK   hD
    · have hD := if_f hD h8
      refine r_aload_n hK d_X11_heel_18 rfl rfl ?_
      refine r_getR hK d_X11_heel_19 fl_RX11_66_10 rfl kd_0 ?_
      refine r_ref (b := 26) R0_0_8 ?_
      refine r_iload_n hK d_X11_heel_22 rfl rfl ?_
      obtain ⟨v11, u10, e9, hD⟩ := bd_e hD
      refine r_callV (As := [.int x1]) (st := []) (stk2 := [.int v11]) hK (C_X10_heelBy kd_26 e9) d_X11_heel_23 mf_X10_heelBy ml_RX11_346 im_X10_heelBy rfl se_9_RX10_X10_heelBy kd_26 rfl (Nat.le_of_ble_eq_true rfl) (by decide) ⟨Nat.zero_le _, Nat.zero_le _⟩ rfl rfl ?_
      refine r_goto (tgt := 30) hK d_X11_heel_26 (by decide) ?_
      cases hD
      exact r_iret hK d_X11_heel_30
end S_X11_heel
theorem d_X11_tilt_0 : gd cX11_tilt 0 (.aload_n 0) 1 1 := ⟨by decide +kernel, rfl⟩
theorem d_X11_tilt_1 : gd cX11_tilt 1 (.getfield 37) 3 4 := ⟨by decide +kernel, rfl⟩
theorem d_X11_tilt_4 : gd cX11_tilt 4 (.iload_n 1) 1 5 := ⟨by decide +kernel, rfl⟩
theorem d_X11_tilt_5 : gd cX11_tilt 5 (.invokevirtual 143) 3 8 := ⟨by decide +kernel, rfl⟩
theorem d_X11_tilt_8 : gd cX11_tilt 8 (.ifCond .eq 23) 3 11 := ⟨by decide +kernel, rfl⟩
theorem d_X11_tilt_11 : gd cX11_tilt 11 (.iload_n 2) 1 12 := ⟨by decide +kernel, rfl⟩
theorem d_X11_tilt_12 : gd cX11_tilt 12 (.iconst 2) 1 13 := ⟨by decide +kernel, rfl⟩
theorem d_X11_tilt_13 : gd cX11_tilt 13 (.bipush 12) 2 15 := ⟨by decide +kernel, rfl⟩
theorem d_X11_tilt_15 : gd cX11_tilt 15 (.invokestatic 123) 3 18 := ⟨by decide +kernel, rfl⟩
theorem d_X11_tilt_18 : gd cX11_tilt 18 (.ifCond .eq 13) 3 21 := ⟨by decide +kernel, rfl⟩
theorem d_X11_tilt_21 : gd cX11_tilt 21 (.iload_n 3) 1 22 := ⟨by decide +kernel, rfl⟩
theorem d_X11_tilt_22 : gd cX11_tilt 22 (.iconst 1) 1 23 := ⟨by decide +kernel, rfl⟩
theorem d_X11_tilt_23 : gd cX11_tilt 23 (.bipush 40) 2 25 := ⟨by decide +kernel, rfl⟩
theorem d_X11_tilt_25 : gd cX11_tilt 25 (.invokestatic 123) 3 28 := ⟨by decide +kernel, rfl⟩
theorem d_X11_tilt_28 : gd cX11_tilt 28 (.ifCond .ne 5) 3 31 := ⟨by decide +kernel, rfl⟩
theorem d_X11_tilt_31 : gd cX11_tilt 31 (.iconst (-1)) 1 32 := ⟨by decide +kernel, rfl⟩
theorem d_X11_tilt_32 : gd cX11_tilt 32 .ireturn 1 33 := ⟨by decide +kernel, rfl⟩
theorem d_X11_tilt_33 : gd cX11_tilt 33 (.aload_n 0) 1 34 := ⟨by decide +kernel, rfl⟩
theorem d_X11_tilt_34 : gd cX11_tilt 34 (.getfield 76) 3 37 := ⟨by decide +kernel, rfl⟩
theorem d_X11_tilt_37 : gd cX11_tilt 37 (.getfield 182) 3 40 := ⟨by decide +kernel, rfl⟩
theorem d_X11_tilt_40 : gd cX11_tilt 40 (.iconst 0) 1 41 := ⟨by decide +kernel, rfl⟩
theorem d_X11_tilt_41 : gd cX11_tilt 41 .aaload 1 42 := ⟨by decide +kernel, rfl⟩
theorem d_X11_tilt_42 : gd cX11_tilt 42 (.astore 4) 2 44 := ⟨by decide +kernel, rfl⟩
theorem d_X11_tilt_44 : gd cX11_tilt 44 (.aload 4) 2 46 := ⟨by decide +kernel, rfl⟩
theorem d_X11_tilt_46 : gd cX11_tilt 46 (.iload_n 2) 1 47 := ⟨by decide +kernel, rfl⟩
theorem d_X11_tilt_47 : gd cX11_tilt 47 (.bipush 40) 2 49 := ⟨by decide +kernel, rfl⟩
theorem d_X11_tilt_49 : gd cX11_tilt 49 (.invokevirtual 186) 3 52 := ⟨by decide +kernel, rfl⟩
theorem d_X11_tilt_52 : gd cX11_tilt 52 (.aload 4) 2 54 := ⟨by decide +kernel, rfl⟩
theorem d_X11_tilt_54 : gd cX11_tilt 54 (.aload_n 0) 1 55 := ⟨by decide +kernel, rfl⟩
theorem d_X11_tilt_55 : gd cX11_tilt 55 (.getfield 37) 3 58 := ⟨by decide +kernel, rfl⟩
theorem d_X11_tilt_58 : gd cX11_tilt 58 (.iload_n 1) 1 59 := ⟨by decide +kernel, rfl⟩
theorem d_X11_tilt_59 : gd cX11_tilt 59 (.invokevirtual 192) 3 62 := ⟨by decide +kernel, rfl⟩
theorem d_X11_tilt_62 : gd cX11_tilt 62 (.aload 4) 2 64 := ⟨by decide +kernel, rfl⟩
theorem d_X11_tilt_64 : gd cX11_tilt 64 (.iconst 0) 1 65 := ⟨by decide +kernel, rfl⟩
theorem d_X11_tilt_65 : gd cX11_tilt 65 (.putfield 196) 3 68 := ⟨by decide +kernel, rfl⟩
theorem d_X11_tilt_68 : gd cX11_tilt 68 (.aload 4) 2 70 := ⟨by decide +kernel, rfl⟩
theorem d_X11_tilt_70 : gd cX11_tilt 70 (.iconst 0) 1 71 := ⟨by decide +kernel, rfl⟩
theorem d_X11_tilt_71 : gd cX11_tilt 71 (.putfield 199) 3 74 := ⟨by decide +kernel, rfl⟩
theorem d_X11_tilt_74 : gd cX11_tilt 74 (.iconst 0) 1 75 := ⟨by decide +kernel, rfl⟩
theorem d_X11_tilt_75 : gd cX11_tilt 75 (.istore 5) 2 77 := ⟨by decide +kernel, rfl⟩
theorem d_X11_tilt_77 : gd cX11_tilt 77 (.iload 5) 2 79 := ⟨by decide +kernel, rfl⟩
theorem d_X11_tilt_79 : gd cX11_tilt 79 (.bipush 60) 2 81 := ⟨by decide +kernel, rfl⟩
theorem d_X11_tilt_81 : gd cX11_tilt 81 (.if_icmp .gt 42) 3 84 := ⟨by decide +kernel, rfl⟩
theorem d_X11_tilt_84 : gd cX11_tilt 84 (.aload 4) 2 86 := ⟨by decide +kernel, rfl⟩
theorem d_X11_tilt_86 : gd cX11_tilt 86 (.iload_n 2) 1 87 := ⟨by decide +kernel, rfl⟩
theorem d_X11_tilt_87 : gd cX11_tilt 87 (.iload_n 3) 1 88 := ⟨by decide +kernel, rfl⟩
theorem d_X11_tilt_88 : gd cX11_tilt 88 .imul 1 89 := ⟨by decide +kernel, rfl⟩
theorem d_X11_tilt_89 : gd cX11_tilt 89 (.iconst 1) 1 90 := ⟨by decide +kernel, rfl⟩
theorem d_X11_tilt_90 : gd cX11_tilt 90 (.invokevirtual 202) 3 93 := ⟨by decide +kernel, rfl⟩
theorem d_X11_tilt_93 : gd cX11_tilt 93 (.aload 4) 2 95 := ⟨by decide +kernel, rfl⟩
theorem d_X11_tilt_95 : gd cX11_tilt 95 (.iload 5) 2 97 := ⟨by decide +kernel, rfl⟩
theorem d_X11_tilt_97 : gd cX11_tilt 97 (.invokevirtual 340) 3 100 := ⟨by decide +kernel, rfl⟩
theorem d_X11_tilt_100 : gd cX11_tilt 100 (.aload 4) 2 102 := ⟨by decide +kernel, rfl⟩
theorem d_X11_tilt_102 : gd cX11_tilt 102 (.getfield 349) 3 105 := ⟨by decide +kernel, rfl⟩
theorem d_X11_tilt_105 : gd cX11_tilt 105 (.aload 4) 2 107 := ⟨by decide +kernel, rfl⟩
theorem d_X11_tilt_107 : gd cX11_tilt 107 (.getfield 352) 3 110 := ⟨by decide +kernel, rfl⟩
theorem d_X11_tilt_110 : gd cX11_tilt 110 .iadd 1 111 := ⟨by decide +kernel, rfl⟩
theorem d_X11_tilt_111 : gd cX11_tilt 111 (.ifCond .le 6) 3 114 := ⟨by decide +kernel, rfl⟩
theorem d_X11_tilt_114 : gd cX11_tilt 114 (.iload 5) 2 116 := ⟨by decide +kernel, rfl⟩
theorem d_X11_tilt_116 : gd cX11_tilt 116 .ireturn 1 117 := ⟨by decide +kernel, rfl⟩
theorem d_X11_tilt_117 : gd cX11_tilt 117 (.iinc 5 1) 3 120 := ⟨by decide +kernel, rfl⟩
theorem d_X11_tilt_120 : gd cX11_tilt 120 (.goto (-43)) 3 123 := ⟨by decide +kernel, rfl⟩
theorem d_X11_tilt_123 : gd cX11_tilt 123 (.iconst (-1)) 1 124 := ⟨by decide +kernel, rfl⟩
theorem d_X11_tilt_124 : gd cX11_tilt 124 .ireturn 1 125 := ⟨by decide +kernel, rfl⟩
def Bo_X11_tilt_77 (q77 : Int32 → Int32 → Nat → Int32 → gs_M → Option (Int32 × gs_M)) (x2 : Int32) (x3 : Int32) (a4 : Nat) (x5 : Int32) (μ : gs_M) : Option (Int32 × gs_M) :=
  if (60 : Int32) < x5 then (some ((-1 : Int32), μ)) else (bd0 (D_X1_fill a4 (x2 * x3) (1 : Int32) μ) (fun u3 => bd0 (D_X1_restWith a4 x5 u3) (fun u5 => if ((gI u5 a4 6) + (gI u5 a4 7)) ≤ 0 then (q77 x2 x3 a4 (x5 + (1 : Int32)) u5) else (some (x5, u5)))))
def L_X11_tilt_77  : Nat → Int32 → Int32 → Nat → Int32 → gs_M → Option (Int32 × gs_M)
  | 0 => fun _ _ _ _ _ => none
  | n + 1 => fun x2 x3 a4 x5 μ => Bo_X11_tilt_77  (L_X11_tilt_77  n) x2 x3 a4 x5 μ
def D_X11_tilt (x1 : Int32) (x2 : Int32) (x3 : Int32) (μ : gs_M) : Option (Int32 × gs_M) :=
  bd (D_X9_has 7 x1 μ) (fun v3 u2 => if v3 = 0 then (some ((-1 : Int32), u2)) else (bd (D_X11_within x2 (2 : Int32) (12 : Int32) u2) (fun v7 u6 => if v7 = 0 then (some ((-1 : Int32), u6)) else (bd (D_X11_within x3 (1 : Int32) (40 : Int32) u6) (fun v11 u10 => if v11 = 0 then (some ((-1 : Int32), u10)) else (ck (inb (0 : Int32) 4) (bd0 (D_X1_shape (56 + 2 + 2 * Int32.toNatClampNeg (0 : Int32)) x2 (40 : Int32) u10) (fun u15 => bd0 (D_X1_takeStuff (56 + 2 + 2 * Int32.toNatClampNeg (0 : Int32)) 7 x1 u15) (fun u17 => lt1 (sI u17 (56 + 2 + 2 * Int32.toNatClampNeg (0 : Int32)) 2 (0 : Int32)) (fun u18 => lt1 (sI u18 (56 + 2 + 2 * Int32.toNatClampNeg (0 : Int32)) 3 (0 : Int32)) (fun u19 => L_X11_tilt_77 4096 x2 x3 (56 + 2 + 2 * Int32.toNatClampNeg (0 : Int32)) (0 : Int32) u19)))))))))))
section S_X11_tilt
variable {p : Program} {l : Launch} {e : Env} {R : Room} {s : State} {m : MethodId} {args : Array Value} {below : List Frame} {meth : Method} {c : Code} {ad : Nat → Nat} {g : va_G} {tyc : Nat → ClassId}
set_option maxRecDepth 20000 in
theorem To_X11_tilt_77  (hK : KC p R s m args meth c ad g tyc RX11 cX11_tilt 6 (some .int) 5) {r : Int32} {μ2 : gs_M} {q77 : Int32 → Int32 → Nat → Int32 → gs_M → Option (Int32 × gs_M)} (hq77 : ∀ (x2 : Int32) (x3 : Int32) (a4 : Nat) (x5 : Int32) (μ : gs_M), kd a4 = 1 → q77 x2 x3 a4 x5 μ = some (r, μ2) → WJ p l e R s m args below meth c 0 0 (MQ below (gs_Q ad g tyc (some (.int r)) μ2) args s 0 0 (gs_A ad)) ad g tyc 6 77 [gs_J, gs_J, .int x2, .int x3, .ref a4, .int x5] [] μ) {x2 : Int32} {x3 : Int32} {a4 : Nat} {x5 : Int32} {μ : gs_M} (hk4 : kd a4 = 1) (hD : Bo_X11_tilt_77 q77 x2 x3 a4 x5 μ = some (r, μ2)) : WJ p l e R s m args below meth c 0 0 (MQ below (gs_Q ad g tyc (some (.int r)) μ2) args s 0 0 (gs_A ad)) ad g tyc 6 77 [gs_J, gs_J, .int x2, .int x3, .ref a4, .int x5] [] μ := by
  unfold Bo_X11_tilt_77 at hD
  refine r_iload hK d_X11_tilt_77 rfl ?_
  refine r_bipush hK d_X11_tilt_79 cb_60 ?_
  refine r_icmp_gt (tgt := 123) hK d_X11_tilt_81 (by decide) (fun h1 => ?_) (fun h1 => ?_)
  · have hD := if_t hD h1
    refine r_iconst hK d_X11_tilt_123 ci_m1 ?_
    cases hD
    exact r_iret hK d_X11_tilt_124
  · have hD := if_f hD h1
    refine r_aload hK d_X11_tilt_84 rfl ?_
    refine r_iload_n hK d_X11_tilt_86 rfl rfl ?_
    refine r_iload_n hK d_X11_tilt_87 rfl rfl ?_
    refine r_imul hK d_X11_tilt_88 ?_
    refine r_iconst hK d_X11_tilt_89 ci_1 ?_
    obtain ⟨u3, e2, hD⟩ := bd0_e hD
    refine r_callV (As := [.int (x2 * x3), .int (1 : Int32)]) (st := []) (stk2 := []) hK (C_X1_fill hk4 e2) d_X11_tilt_90 mf_X1_fill ml_RX11_202 im_X1_fill rfl se_1_RX1_X1_fill hk4 rfl (Nat.le_of_ble_eq_true rfl) (by decide) ⟨Nat.zero_le _, Nat.zero_le _⟩ rfl rfl ?_
    refine r_aload hK d_X11_tilt_93 rfl ?_
    refine r_iload hK d_X11_tilt_95 rfl ?_
    obtain ⟨u5, e4, hD⟩ := bd0_e hD
    refine r_callV (As := [.int x5]) (st := []) (stk2 := []) hK (C_X1_restWith hk4 e4) d_X11_tilt_97 mf_X1_restWith ml_RX11_340 im_X1_restWith rfl se_1_RX1_X1_restWith hk4 rfl (Nat.le_of_ble_eq_true rfl) (by decide) ⟨Nat.zero_le _, Nat.zero_le _⟩ rfl rfl ?_
    refine r_aload hK d_X11_tilt_100 rfl ?_
    refine r_getI hK d_X11_tilt_102 fl_RX11_349_1 rfl hk4 ?_
    refine r_aload hK d_X11_tilt_105 rfl ?_
    refine r_getI hK d_X11_tilt_107 fl_RX11_352_1 rfl hk4 ?_
    refine r_iadd hK d_X11_tilt_110 ?_
    refine r_if_le (tgt := 117) hK d_X11_tilt_111 (by decide) (fun h6 => ?_) (fun h6 => ?_)
    · have hD := if_t hD h6
      refine r_iinc hK d_X11_tilt_117 rfl (v := x5 + (1 : Int32)) (by rw [ci_1]) (by decide) (ls2 := [gs_J, gs_J, .int x2, .int x3, .ref a4, .int (x5 + (1 : Int32))]) rfl ?_
      refine r_goto (tgt := 77) hK d_X11_tilt_120 (by decide) ?_
      exact hq77 _ _ _ _ _ hk4 hD
    · have hD := if_f hD h6
      refine r_iload hK d_X11_tilt_114 rfl ?_
      cases hD
      exact r_iret hK d_X11_tilt_116
set_option maxRecDepth 20000 in
theorem TL_X11_tilt_77  (hK : KC p R s m args meth c ad g tyc RX11 cX11_tilt 6 (some .int) 5) {r : Int32} {μ2 : gs_M}   : ∀ (n : Nat) (x2 : Int32) (x3 : Int32) (a4 : Nat) (x5 : Int32) (μ : gs_M), kd a4 = 1 → L_X11_tilt_77  n x2 x3 a4 x5 μ = some (r, μ2) → WJ p l e R s m args below meth c 0 0 (MQ below (gs_Q ad g tyc (some (.int r)) μ2) args s 0 0 (gs_A ad)) ad g tyc 6 77 [gs_J, gs_J, .int x2, .int x3, .ref a4, .int x5] [] μ := by
  intro n
  induction n with
  | zero => intro x2 x3 a4 x5 μ hk4 hD; cases hD
  | succ n ih => intro x2 x3 a4 x5 μ hk4 hD; exact To_X11_tilt_77 hK  ih hk4 hD
set_option maxRecDepth 20000 in
theorem C_X11_tilt  {x1 : Int32} {x2 : Int32} {x3 : Int32} {μ : gs_M} {r : Int32} {μ2 : gs_M}  (hD : D_X11_tilt x1 x2 x3 μ = some (r, μ2)) : CALL yX11_tilt cX11_tilt 6 (some .int) 5 [.ref 0, .int x1, .int x2, .int x3] μ (some (.int r)) μ2 := by
  unfold D_X11_tilt at hD
  refine gs_enter mf_X11_tilt (Nat.le_of_ble_eq_true rfl) (ls := [.ref 0, .int x1, .int x2, .int x3, gs_J, gs_J]) rfl (fun p l e R s m args below meth c ad g tyc hK => ?_)
  have hK : KC p R s m args meth c ad g tyc RX11 cX11_tilt 6 (some .int) 5 := hK
  refine r_aload_n hK d_X11_tilt_0 rfl rfl ?_
  refine r_getR hK d_X11_tilt_1 fl_RX11_37_10 rfl kd_0 ?_
  refine r_ref (b := 7) R0_0_3 ?_
  refine r_iload_n hK d_X11_tilt_4 rfl rfl ?_
  obtain ⟨v3, u2, e1, hD⟩ := bd_e hD
  refine r_callV (As := [.int x1]) (st := []) (stk2 := [.int v3]) hK (C_X9_has kd_7 e1) d_X11_tilt_5 mf_X9_has ml_RX11_143 im_X9_has rfl se_8_RX9_X9_has kd_7 rfl (Nat.le_of_ble_eq_true rfl) (by decide) ⟨Nat.zero_le _, Nat.zero_le _⟩ rfl rfl ?_
  refine r_if_eq (tgt := 31) hK d_X11_tilt_8 (by decide) (fun h4 => ?_) (fun h4 => ?_)
  · have hD := if_t hD h4
    refine r_iconst hK d_X11_tilt_31 ci_m1 ?_
    cases hD
    exact r_iret hK d_X11_tilt_32
  · have hD := if_f hD h4
    refine r_iload_n hK d_X11_tilt_11 rfl rfl ?_
    refine r_iconst hK d_X11_tilt_12 ci_2 ?_
    refine r_bipush hK d_X11_tilt_13 cb_12 ?_
    obtain ⟨v7, u6, e5, hD⟩ := bd_e hD
    refine r_callS (As := [.int x2, .int (2 : Int32), .int (12 : Int32)]) (st := []) (stk2 := [.int v7]) hK (C_X11_within  e5) d_X11_tilt_15 mf_X11_within ml_RX11_123 ss_X11_within rfl (Nat.le_of_ble_eq_true rfl) (by decide) ⟨Nat.zero_le _, Nat.zero_le _⟩ rfl rfl ?_
    refine r_if_eq (tgt := 31) hK d_X11_tilt_18 (by decide) (fun h8 => ?_) (fun h8 => ?_)
    · have hD := if_t hD h8
      refine r_iconst hK d_X11_tilt_31 ci_m1 ?_
      cases hD
      exact r_iret hK d_X11_tilt_32
    · have hD := if_f hD h8
      refine r_iload_n hK d_X11_tilt_21 rfl rfl ?_
      refine r_iconst hK d_X11_tilt_22 ci_1 ?_
      refine r_bipush hK d_X11_tilt_23 cb_40 ?_
      obtain ⟨v11, u10, e9, hD⟩ := bd_e hD
      refine r_callS (As := [.int x3, .int (1 : Int32), .int (40 : Int32)]) (st := []) (stk2 := [.int v11]) hK (C_X11_within  e9) d_X11_tilt_25 mf_X11_within ml_RX11_123 ss_X11_within rfl (Nat.le_of_ble_eq_true rfl) (by decide) ⟨Nat.zero_le _, Nat.zero_le _⟩ rfl rfl ?_
      refine r_if_ne (tgt := 33) hK d_X11_tilt_28 (by decide) (fun h12 => ?_) (fun h12 => ?_)
      · have hD := if_f hD h12
        refine r_aload_n hK d_X11_tilt_33 rfl rfl ?_
        refine r_getR hK d_X11_tilt_34 fl_RX11_76_10 rfl kd_0 ?_
        refine r_ref (b := 56) R0_0_11 ?_
        refine r_getR hK d_X11_tilt_37 fl_RX11_182_9 rfl kd_56 ?_
        refine r_ref (b := (56 + 1)) ((ly_ves _ kd_56).1.1) ?_
        refine r_iconst hK d_X11_tilt_40 ci_0 ?_
        obtain ⟨h13, hD⟩ := ck_e hD
        refine r_aaldH hK d_X11_tilt_41 ((ly_ves _ kd_56).1.2.1) ((ly_ves _ kd_56).1.2.2) (inb_in h13) ?_
        refine r_ref (b := (56 + 2 + 2 * Int32.toNatClampNeg (0 : Int32))) ((ly_vh _ kd_56 _ (inb_lt h13)).1) ?_
        refine r_astore hK d_X11_tilt_42 (by decide) (ls2 := [.ref 0, .int x1, .int x2, .int x3, .ref (56 + 2 + 2 * Int32.toNatClampNeg (0 : Int32)), gs_J]) rfl ?_
        refine r_aload hK d_X11_tilt_44 rfl ?_
        refine r_iload_n hK d_X11_tilt_46 rfl rfl ?_
        refine r_bipush hK d_X11_tilt_47 cb_40 ?_
        obtain ⟨u15, e14, hD⟩ := bd0_e hD
        refine r_callV (As := [.int x2, .int (40 : Int32)]) (st := []) (stk2 := []) hK (C_X1_shape ((ly_vh _ kd_56 _ (inb_lt h13)).2) e14) d_X11_tilt_49 mf_X1_shape ml_RX11_186 im_X1_shape rfl se_1_RX1_X1_shape ((ly_vh _ kd_56 _ (inb_lt h13)).2) rfl (Nat.le_of_ble_eq_true rfl) (by decide) ⟨Nat.zero_le _, Nat.zero_le _⟩ rfl rfl ?_
        refine r_aload hK d_X11_tilt_52 rfl ?_
        refine r_aload_n hK d_X11_tilt_54 rfl rfl ?_
        refine r_getR hK d_X11_tilt_55 fl_RX11_37_10 rfl kd_0 ?_
        refine r_ref (b := 7) R0_0_3 ?_
        refine r_iload_n hK d_X11_tilt_58 rfl rfl ?_
        obtain ⟨u17, e16, hD⟩ := bd0_e hD
        refine r_callV (As := [.ref 7, .int x1]) (st := []) (stk2 := []) hK (C_X1_takeStuff ((ly_vh _ kd_56 _ (inb_lt h13)).2) kd_7 e16) d_X11_tilt_59 mf_X1_takeStuff ml_RX11_192 im_X1_takeStuff rfl se_1_RX1_X1_takeStuff ((ly_vh _ kd_56 _ (inb_lt h13)).2) rfl (Nat.le_of_ble_eq_true rfl) (by decide) ⟨Nat.zero_le _, Nat.zero_le _⟩ rfl rfl ?_
        refine r_aload hK d_X11_tilt_62 rfl ?_
        refine r_iconst hK d_X11_tilt_64 ci_0 ?_
        refine r_putI hK d_X11_tilt_65 fl_RX11_196_1 rfl rfl ((ly_vh _ kd_56 _ (inb_lt h13)).2) ?_
        refine r_ltm hD (fun u18 hD => ?_)
        refine r_aload hK d_X11_tilt_68 rfl ?_
        refine r_iconst hK d_X11_tilt_70 ci_0 ?_
        refine r_putI hK d_X11_tilt_71 fl_RX11_199_1 rfl rfl ((ly_vh _ kd_56 _ (inb_lt h13)).2) ?_
        refine r_ltm hD (fun u19 hD => ?_)
        refine r_iconst hK d_X11_tilt_74 ci_0 ?_
        refine r_istore hK d_X11_tilt_75 (by decide) (ls2 := [.ref 0, .int x1, .int x2, .int x3, .ref (56 + 2 + 2 * Int32.toNatClampNeg (0 : Int32)), .int (0 : Int32)]) rfl ?_
        refine r_junk [false, false, true, true, true, true] (ls2 := [gs_J, gs_J, .int x2, .int x3, .ref (56 + 2 + 2 * Int32.toNatClampNeg (0 : Int32)), .int (0 : Int32)]) rfl ?_
        exact TL_X11_tilt_77 hK  _ _ _ _ _ _ ((ly_vh _ kd_56 _ (inb_lt h13)).2) hD
      · have hD := if_t hD h12
        refine r_iconst hK d_X11_tilt_31 ci_m1 ?_
        cases hD
        exact r_iret hK d_X11_tilt_32
end S_X11_tilt
theorem d_X11_ripens_0 : gd cX11_ripens 0 (.aload_n 0) 1 1 := ⟨by decide +kernel, rfl⟩
theorem d_X11_ripens_1 : gd cX11_ripens 1 (.invokevirtual 206) 3 4 := ⟨by decide +kernel, rfl⟩
theorem d_X11_ripens_4 : gd cX11_ripens 4 (.ifCond .eq 24) 3 7 := ⟨by decide +kernel, rfl⟩
theorem d_X11_ripens_7 : gd cX11_ripens 7 (.aload_n 0) 1 8 := ⟨by decide +kernel, rfl⟩
theorem d_X11_ripens_8 : gd cX11_ripens 8 (.getfield 66) 3 11 := ⟨by decide +kernel, rfl⟩
theorem d_X11_ripens_11 : gd cX11_ripens 11 (.iload_n 1) 1 12 := ⟨by decide +kernel, rfl⟩
theorem d_X11_ripens_12 : gd cX11_ripens 12 (.invokevirtual 228) 3 15 := ⟨by decide +kernel, rfl⟩
theorem d_X11_ripens_15 : gd cX11_ripens 15 (.ifCond .eq 13) 3 18 := ⟨by decide +kernel, rfl⟩
theorem d_X11_ripens_18 : gd cX11_ripens 18 (.iload_n 2) 1 19 := ⟨by decide +kernel, rfl⟩
theorem d_X11_ripens_19 : gd cX11_ripens 19 (.iconst 1) 1 20 := ⟨by decide +kernel, rfl⟩
theorem d_X11_ripens_20 : gd cX11_ripens 20 (.bipush 40) 2 22 := ⟨by decide +kernel, rfl⟩
theorem d_X11_ripens_22 : gd cX11_ripens 22 (.invokestatic 123) 3 25 := ⟨by decide +kernel, rfl⟩
theorem d_X11_ripens_25 : gd cX11_ripens 25 (.ifCond .ne 5) 3 28 := ⟨by decide +kernel, rfl⟩
theorem d_X11_ripens_28 : gd cX11_ripens 28 (.iconst (-1)) 1 29 := ⟨by decide +kernel, rfl⟩
theorem d_X11_ripens_29 : gd cX11_ripens 29 .ireturn 1 30 := ⟨by decide +kernel, rfl⟩
theorem d_X11_ripens_30 : gd cX11_ripens 30 (.aload_n 0) 1 31 := ⟨by decide +kernel, rfl⟩
theorem d_X11_ripens_31 : gd cX11_ripens 31 (.getfield 66) 3 34 := ⟨by decide +kernel, rfl⟩
theorem d_X11_ripens_34 : gd cX11_ripens 34 (.getfield 182) 3 37 := ⟨by decide +kernel, rfl⟩
theorem d_X11_ripens_37 : gd cX11_ripens 37 (.iload_n 1) 1 38 := ⟨by decide +kernel, rfl⟩
theorem d_X11_ripens_38 : gd cX11_ripens 38 .aaload 1 39 := ⟨by decide +kernel, rfl⟩
theorem d_X11_ripens_39 : gd cX11_ripens 39 (.astore_n 3) 1 40 := ⟨by decide +kernel, rfl⟩
theorem d_X11_ripens_40 : gd cX11_ripens 40 (.iconst 0) 1 41 := ⟨by decide +kernel, rfl⟩
theorem d_X11_ripens_41 : gd cX11_ripens 41 (.istore 4) 2 43 := ⟨by decide +kernel, rfl⟩
theorem d_X11_ripens_43 : gd cX11_ripens 43 (.iload 4) 2 45 := ⟨by decide +kernel, rfl⟩
theorem d_X11_ripens_45 : gd cX11_ripens 45 (.sipush 999) 3 48 := ⟨by decide +kernel, rfl⟩
theorem d_X11_ripens_48 : gd cX11_ripens 48 (.if_icmp .gt 28) 3 51 := ⟨by decide +kernel, rfl⟩
theorem d_X11_ripens_51 : gd cX11_ripens 51 (.aload_n 3) 1 52 := ⟨by decide +kernel, rfl⟩
theorem d_X11_ripens_52 : gd cX11_ripens 52 (.aload_n 3) 1 53 := ⟨by decide +kernel, rfl⟩
theorem d_X11_ripens_53 : gd cX11_ripens 53 (.getfield 241) 3 56 := ⟨by decide +kernel, rfl⟩
theorem d_X11_ripens_56 : gd cX11_ripens 56 (.iload 4) 2 58 := ⟨by decide +kernel, rfl⟩
theorem d_X11_ripens_58 : gd cX11_ripens 58 (.iload_n 2) 1 59 := ⟨by decide +kernel, rfl⟩
theorem d_X11_ripens_59 : gd cX11_ripens 59 .imul 1 60 := ⟨by decide +kernel, rfl⟩
theorem d_X11_ripens_60 : gd cX11_ripens 60 .iadd 1 61 := ⟨by decide +kernel, rfl⟩
theorem d_X11_ripens_61 : gd cX11_ripens 61 (.invokevirtual 244) 3 64 := ⟨by decide +kernel, rfl⟩
theorem d_X11_ripens_64 : gd cX11_ripens 64 (.ifCond .eq 6) 3 67 := ⟨by decide +kernel, rfl⟩
theorem d_X11_ripens_67 : gd cX11_ripens 67 (.iload 4) 2 69 := ⟨by decide +kernel, rfl⟩
theorem d_X11_ripens_69 : gd cX11_ripens 69 .ireturn 1 70 := ⟨by decide +kernel, rfl⟩
theorem d_X11_ripens_70 : gd cX11_ripens 70 (.iinc 4 1) 3 73 := ⟨by decide +kernel, rfl⟩
theorem d_X11_ripens_73 : gd cX11_ripens 73 (.goto (-30)) 3 76 := ⟨by decide +kernel, rfl⟩
theorem d_X11_ripens_76 : gd cX11_ripens 76 (.iconst (-1)) 1 77 := ⟨by decide +kernel, rfl⟩
theorem d_X11_ripens_77 : gd cX11_ripens 77 .ireturn 1 78 := ⟨by decide +kernel, rfl⟩
def Bo_X11_ripens_43 (q43 : Int32 → Nat → Int32 → gs_M → Option (Int32 × gs_M)) (x2 : Int32) (a3 : Nat) (x4 : Int32) (μ : gs_M) : Option (Int32 × gs_M) :=
  if (999 : Int32) < x4 then (some ((-1 : Int32), μ)) else (bd (D_X1_isSoup a3 ((gI μ a3 5) + (x4 * x2)) μ) (fun v4 u3 => if v4 = 0 then (q43 x2 a3 (x4 + (1 : Int32)) u3) else (some (x4, u3))))
def L_X11_ripens_43  : Nat → Int32 → Nat → Int32 → gs_M → Option (Int32 × gs_M)
  | 0 => fun _ _ _ _ => none
  | n + 1 => fun x2 a3 x4 μ => Bo_X11_ripens_43  (L_X11_ripens_43  n) x2 a3 x4 μ
def D_X11_ripens (x1 : Int32) (x2 : Int32) (μ : gs_M) : Option (Int32 × gs_M) :=
  bd (D_X11_isReady μ) (fun v3 u2 => if v3 = 0 then (some ((-1 : Int32), u2)) else (bd (D_X10_hasHold 26 x1 u2) (fun v7 u6 => if v7 = 0 then (some ((-1 : Int32), u6)) else (bd (D_X11_within x2 (1 : Int32) (40 : Int32) u6) (fun v11 u10 => if v11 = 0 then (some ((-1 : Int32), u10)) else (ck (inb x1 4) (L_X11_ripens_43 4096 x2 (26 + 2 + 2 * Int32.toNatClampNeg x1) (0 : Int32) u10)))))))
section S_X11_ripens
variable {p : Program} {l : Launch} {e : Env} {R : Room} {s : State} {m : MethodId} {args : Array Value} {below : List Frame} {meth : Method} {c : Code} {ad : Nat → Nat} {g : va_G} {tyc : Nat → ClassId}
set_option maxRecDepth 20000 in
theorem To_X11_ripens_43  (hK : KC p R s m args meth c ad g tyc RX11 cX11_ripens 5 (some .int) 2) {r : Int32} {μ2 : gs_M} {q43 : Int32 → Nat → Int32 → gs_M → Option (Int32 × gs_M)} (hq43 : ∀ (x2 : Int32) (a3 : Nat) (x4 : Int32) (μ : gs_M), kd a3 = 1 → q43 x2 a3 x4 μ = some (r, μ2) → WJ p l e R s m args below meth c 0 0 (MQ below (gs_Q ad g tyc (some (.int r)) μ2) args s 0 0 (gs_A ad)) ad g tyc 5 43 [gs_J, gs_J, .int x2, .ref a3, .int x4] [] μ) {x2 : Int32} {a3 : Nat} {x4 : Int32} {μ : gs_M} (hk3 : kd a3 = 1) (hD : Bo_X11_ripens_43 q43 x2 a3 x4 μ = some (r, μ2)) : WJ p l e R s m args below meth c 0 0 (MQ below (gs_Q ad g tyc (some (.int r)) μ2) args s 0 0 (gs_A ad)) ad g tyc 5 43 [gs_J, gs_J, .int x2, .ref a3, .int x4] [] μ := by
  unfold Bo_X11_ripens_43 at hD
  refine r_iload hK d_X11_ripens_43 rfl ?_
  refine r_sipush hK d_X11_ripens_45 cs_999 ?_
  refine r_icmp_gt (tgt := 76) hK d_X11_ripens_48 (by decide) (fun h1 => ?_) (fun h1 => ?_)
  · have hD := if_t hD h1
    refine r_iconst hK d_X11_ripens_76 ci_m1 ?_
    cases hD
    exact r_iret hK d_X11_ripens_77
  · have hD := if_f hD h1
    refine r_aload_n hK d_X11_ripens_51 rfl rfl ?_
    refine r_aload_n hK d_X11_ripens_52 rfl rfl ?_
    refine r_getI hK d_X11_ripens_53 fl_RX11_241_1 rfl hk3 ?_
    refine r_iload hK d_X11_ripens_56 rfl ?_
    refine r_iload_n hK d_X11_ripens_58 rfl rfl ?_
    refine r_imul hK d_X11_ripens_59 ?_
    refine r_iadd hK d_X11_ripens_60 ?_
    obtain ⟨v4, u3, e2, hD⟩ := bd_e hD
    refine r_callV (As := [.int ((gI μ a3 5) + (x4 * x2))]) (st := []) (stk2 := [.int v4]) hK (C_X1_isSoup hk3 e2) d_X11_ripens_61 mf_X1_isSoup ml_RX11_244 im_X1_isSoup rfl se_1_RX1_X1_isSoup hk3 rfl (Nat.le_of_ble_eq_true rfl) (by decide) ⟨Nat.zero_le _, Nat.zero_le _⟩ rfl rfl ?_
    refine r_if_eq (tgt := 70) hK d_X11_ripens_64 (by decide) (fun h5 => ?_) (fun h5 => ?_)
    · have hD := if_t hD h5
      refine r_iinc hK d_X11_ripens_70 rfl (v := x4 + (1 : Int32)) (by rw [ci_1]) (by decide) (ls2 := [gs_J, gs_J, .int x2, .ref a3, .int (x4 + (1 : Int32))]) rfl ?_
      refine r_goto (tgt := 43) hK d_X11_ripens_73 (by decide) ?_
      exact hq43 _ _ _ _ hk3 hD
    · have hD := if_f hD h5
      refine r_iload hK d_X11_ripens_67 rfl ?_
      cases hD
      exact r_iret hK d_X11_ripens_69
set_option maxRecDepth 20000 in
theorem TL_X11_ripens_43  (hK : KC p R s m args meth c ad g tyc RX11 cX11_ripens 5 (some .int) 2) {r : Int32} {μ2 : gs_M}   : ∀ (n : Nat) (x2 : Int32) (a3 : Nat) (x4 : Int32) (μ : gs_M), kd a3 = 1 → L_X11_ripens_43  n x2 a3 x4 μ = some (r, μ2) → WJ p l e R s m args below meth c 0 0 (MQ below (gs_Q ad g tyc (some (.int r)) μ2) args s 0 0 (gs_A ad)) ad g tyc 5 43 [gs_J, gs_J, .int x2, .ref a3, .int x4] [] μ := by
  intro n
  induction n with
  | zero => intro x2 a3 x4 μ hk3 hD; cases hD
  | succ n ih => intro x2 a3 x4 μ hk3 hD; exact To_X11_ripens_43 hK  ih hk3 hD
set_option maxRecDepth 20000 in
theorem C_X11_ripens  {x1 : Int32} {x2 : Int32} {μ : gs_M} {r : Int32} {μ2 : gs_M}  (hD : D_X11_ripens x1 x2 μ = some (r, μ2)) : CALL yX11_ripens cX11_ripens 5 (some .int) 2 [.ref 0, .int x1, .int x2] μ (some (.int r)) μ2 := by
  unfold D_X11_ripens at hD
  refine gs_enter mf_X11_ripens (Nat.le_of_ble_eq_true rfl) (ls := [.ref 0, .int x1, .int x2, gs_J, gs_J]) rfl (fun p l e R s m args below meth c ad g tyc hK => ?_)
  have hK : KC p R s m args meth c ad g tyc RX11 cX11_ripens 5 (some .int) 2 := hK
  refine r_aload_n hK d_X11_ripens_0 rfl rfl ?_
  obtain ⟨v3, u2, e1, hD⟩ := bd_e hD
  refine r_callV (As := []) (st := []) (stk2 := [.int v3]) hK (C_X11_isReady  e1) d_X11_ripens_1 mf_X11_isReady ml_RX11_206 im_X11_isReady rfl se_10_RX11_X11_isReady kd_0 rfl (Nat.le_of_ble_eq_true rfl) (by decide) ⟨Nat.zero_le _, Nat.zero_le _⟩ rfl rfl ?_
  refine r_if_eq (tgt := 28) hK d_X11_ripens_4 (by decide) (fun h4 => ?_) (fun h4 => ?_)
  · have hD := if_t hD h4
    refine r_iconst hK d_X11_ripens_28 ci_m1 ?_
    cases hD
    exact r_iret hK d_X11_ripens_29
  · have hD := if_f hD h4
    refine r_aload_n hK d_X11_ripens_7 rfl rfl ?_
    refine r_getR hK d_X11_ripens_8 fl_RX11_66_10 rfl kd_0 ?_
    refine r_ref (b := 26) R0_0_8 ?_
    refine r_iload_n hK d_X11_ripens_11 rfl rfl ?_
    obtain ⟨v7, u6, e5, hD⟩ := bd_e hD
    refine r_callV (As := [.int x1]) (st := []) (stk2 := [.int v7]) hK (C_X10_hasHold kd_26 e5) d_X11_ripens_12 mf_X10_hasHold ml_RX11_228 im_X10_hasHold rfl se_9_RX10_X10_hasHold kd_26 rfl (Nat.le_of_ble_eq_true rfl) (by decide) ⟨Nat.zero_le _, Nat.zero_le _⟩ rfl rfl ?_
    refine r_if_eq (tgt := 28) hK d_X11_ripens_15 (by decide) (fun h8 => ?_) (fun h8 => ?_)
    · have hD := if_t hD h8
      refine r_iconst hK d_X11_ripens_28 ci_m1 ?_
      cases hD
      exact r_iret hK d_X11_ripens_29
    · have hD := if_f hD h8
      refine r_iload_n hK d_X11_ripens_18 rfl rfl ?_
      refine r_iconst hK d_X11_ripens_19 ci_1 ?_
      refine r_bipush hK d_X11_ripens_20 cb_40 ?_
      obtain ⟨v11, u10, e9, hD⟩ := bd_e hD
      refine r_callS (As := [.int x2, .int (1 : Int32), .int (40 : Int32)]) (st := []) (stk2 := [.int v11]) hK (C_X11_within  e9) d_X11_ripens_22 mf_X11_within ml_RX11_123 ss_X11_within rfl (Nat.le_of_ble_eq_true rfl) (by decide) ⟨Nat.zero_le _, Nat.zero_le _⟩ rfl rfl ?_
      refine r_if_ne (tgt := 30) hK d_X11_ripens_25 (by decide) (fun h12 => ?_) (fun h12 => ?_)
      · have hD := if_f hD h12
        refine r_aload_n hK d_X11_ripens_30 rfl rfl ?_
        refine r_getR hK d_X11_ripens_31 fl_RX11_66_10 rfl kd_0 ?_
        refine r_ref (b := 26) R0_0_8 ?_
        refine r_getR hK d_X11_ripens_34 fl_RX11_182_9 rfl kd_26 ?_
        refine r_ref (b := (26 + 1)) ((ly_ves _ kd_26).1.1) ?_
        refine r_iload_n hK d_X11_ripens_37 rfl rfl ?_
        obtain ⟨h13, hD⟩ := ck_e hD
        refine r_aaldH hK d_X11_ripens_38 ((ly_ves _ kd_26).1.2.1) ((ly_ves _ kd_26).1.2.2) (inb_in h13) ?_
        refine r_ref (b := (26 + 2 + 2 * Int32.toNatClampNeg x1)) ((ly_vh _ kd_26 _ (inb_lt h13)).1) ?_
        refine r_astore_n hK d_X11_ripens_39 rfl (by decide) (ls2 := [.ref 0, .int x1, .int x2, .ref (26 + 2 + 2 * Int32.toNatClampNeg x1), gs_J]) rfl ?_
        refine r_iconst hK d_X11_ripens_40 ci_0 ?_
        refine r_istore hK d_X11_ripens_41 (by decide) (ls2 := [.ref 0, .int x1, .int x2, .ref (26 + 2 + 2 * Int32.toNatClampNeg x1), .int (0 : Int32)]) rfl ?_
        refine r_junk [false, false, true, true, true] (ls2 := [gs_J, gs_J, .int x2, .ref (26 + 2 + 2 * Int32.toNatClampNeg x1), .int (0 : Int32)]) rfl ?_
        exact TL_X11_ripens_43 hK  _ _ _ _ _ ((ly_vh _ kd_26 _ (inb_lt h13)).2) hD
      · have hD := if_t hD h12
        refine r_iconst hK d_X11_ripens_28 ci_m1 ?_
        cases hD
        exact r_iret hK d_X11_ripens_29
end S_X11_ripens
theorem d_X11_slide_0 : gd cX11_slide 0 (.aload_n 0) 1 1 := ⟨by decide +kernel, rfl⟩
theorem d_X11_slide_1 : gd cX11_slide 1 (.invokevirtual 206) 3 4 := ⟨by decide +kernel, rfl⟩
theorem d_X11_slide_4 : gd cX11_slide 4 (.ifCond .eq 24) 3 7 := ⟨by decide +kernel, rfl⟩
theorem d_X11_slide_7 : gd cX11_slide 7 (.aload_n 0) 1 8 := ⟨by decide +kernel, rfl⟩
theorem d_X11_slide_8 : gd cX11_slide 8 (.getfield 66) 3 11 := ⟨by decide +kernel, rfl⟩
theorem d_X11_slide_11 : gd cX11_slide 11 (.iload_n 1) 1 12 := ⟨by decide +kernel, rfl⟩
theorem d_X11_slide_12 : gd cX11_slide 12 (.invokevirtual 228) 3 15 := ⟨by decide +kernel, rfl⟩
theorem d_X11_slide_15 : gd cX11_slide 15 (.ifCond .eq 13) 3 18 := ⟨by decide +kernel, rfl⟩
theorem d_X11_slide_18 : gd cX11_slide 18 (.iload_n 2) 1 19 := ⟨by decide +kernel, rfl⟩
theorem d_X11_slide_19 : gd cX11_slide 19 (.iconst 0) 1 20 := ⟨by decide +kernel, rfl⟩
theorem d_X11_slide_20 : gd cX11_slide 20 (.bipush 40) 2 22 := ⟨by decide +kernel, rfl⟩
theorem d_X11_slide_22 : gd cX11_slide 22 (.invokestatic 123) 3 25 := ⟨by decide +kernel, rfl⟩
theorem d_X11_slide_25 : gd cX11_slide 25 (.ifCond .ne 5) 3 28 := ⟨by decide +kernel, rfl⟩
theorem d_X11_slide_28 : gd cX11_slide 28 (.iconst (-1)) 1 29 := ⟨by decide +kernel, rfl⟩
theorem d_X11_slide_29 : gd cX11_slide 29 .ireturn 1 30 := ⟨by decide +kernel, rfl⟩
theorem d_X11_slide_30 : gd cX11_slide 30 (.aload_n 0) 1 31 := ⟨by decide +kernel, rfl⟩
theorem d_X11_slide_31 : gd cX11_slide 31 (.iload_n 2) 1 32 := ⟨by decide +kernel, rfl⟩
theorem d_X11_slide_32 : gd cX11_slide 32 (.invokevirtual 269) 3 35 := ⟨by decide +kernel, rfl⟩
theorem d_X11_slide_35 : gd cX11_slide 35 .pop 1 36 := ⟨by decide +kernel, rfl⟩
theorem d_X11_slide_36 : gd cX11_slide 36 (.iconst 0) 1 37 := ⟨by decide +kernel, rfl⟩
theorem d_X11_slide_37 : gd cX11_slide 37 (.istore_n 3) 1 38 := ⟨by decide +kernel, rfl⟩
theorem d_X11_slide_38 : gd cX11_slide 38 (.iconst 0) 1 39 := ⟨by decide +kernel, rfl⟩
theorem d_X11_slide_39 : gd cX11_slide 39 (.istore 4) 2 41 := ⟨by decide +kernel, rfl⟩
theorem d_X11_slide_41 : gd cX11_slide 41 (.iload 4) 2 43 := ⟨by decide +kernel, rfl⟩
theorem d_X11_slide_43 : gd cX11_slide 43 (.aload_n 0) 1 44 := ⟨by decide +kernel, rfl⟩
theorem d_X11_slide_44 : gd cX11_slide 44 (.getfield 66) 3 47 := ⟨by decide +kernel, rfl⟩
theorem d_X11_slide_47 : gd cX11_slide 47 (.getfield 182) 3 50 := ⟨by decide +kernel, rfl⟩
theorem d_X11_slide_50 : gd cX11_slide 50 (.iload_n 1) 1 51 := ⟨by decide +kernel, rfl⟩
theorem d_X11_slide_51 : gd cX11_slide 51 .aaload 1 52 := ⟨by decide +kernel, rfl⟩
theorem d_X11_slide_52 : gd cX11_slide 52 (.getfield 355) 3 55 := ⟨by decide +kernel, rfl⟩
theorem d_X11_slide_55 : gd cX11_slide 55 (.if_icmp .ge 49) 3 58 := ⟨by decide +kernel, rfl⟩
theorem d_X11_slide_58 : gd cX11_slide 58 (.aload_n 0) 1 59 := ⟨by decide +kernel, rfl⟩
theorem d_X11_slide_59 : gd cX11_slide 59 (.getfield 76) 3 62 := ⟨by decide +kernel, rfl⟩
theorem d_X11_slide_62 : gd cX11_slide 62 (.getfield 182) 3 65 := ⟨by decide +kernel, rfl⟩
theorem d_X11_slide_65 : gd cX11_slide 65 (.iload_n 1) 1 66 := ⟨by decide +kernel, rfl⟩
theorem d_X11_slide_66 : gd cX11_slide 66 .aaload 1 67 := ⟨by decide +kernel, rfl⟩
theorem d_X11_slide_67 : gd cX11_slide 67 (.getfield 222) 3 70 := ⟨by decide +kernel, rfl⟩
theorem d_X11_slide_70 : gd cX11_slide 70 (.iload 4) 2 72 := ⟨by decide +kernel, rfl⟩
theorem d_X11_slide_72 : gd cX11_slide 72 .iaload 1 73 := ⟨by decide +kernel, rfl⟩
theorem d_X11_slide_73 : gd cX11_slide 73 (.aload_n 0) 1 74 := ⟨by decide +kernel, rfl⟩
theorem d_X11_slide_74 : gd cX11_slide 74 (.getfield 66) 3 77 := ⟨by decide +kernel, rfl⟩
theorem d_X11_slide_77 : gd cX11_slide 77 (.getfield 182) 3 80 := ⟨by decide +kernel, rfl⟩
theorem d_X11_slide_80 : gd cX11_slide 80 (.iload_n 1) 1 81 := ⟨by decide +kernel, rfl⟩
theorem d_X11_slide_81 : gd cX11_slide 81 .aaload 1 82 := ⟨by decide +kernel, rfl⟩
theorem d_X11_slide_82 : gd cX11_slide 82 (.getfield 222) 3 85 := ⟨by decide +kernel, rfl⟩
theorem d_X11_slide_85 : gd cX11_slide 85 (.iload 4) 2 87 := ⟨by decide +kernel, rfl⟩
theorem d_X11_slide_87 : gd cX11_slide 87 .iaload 1 88 := ⟨by decide +kernel, rfl⟩
theorem d_X11_slide_88 : gd cX11_slide 88 (.if_icmp .ge 10) 3 91 := ⟨by decide +kernel, rfl⟩
theorem d_X11_slide_91 : gd cX11_slide 91 (.iload_n 3) 1 92 := ⟨by decide +kernel, rfl⟩
theorem d_X11_slide_92 : gd cX11_slide 92 (.iconst 1) 1 93 := ⟨by decide +kernel, rfl⟩
theorem d_X11_slide_93 : gd cX11_slide 93 (.iload 4) 2 95 := ⟨by decide +kernel, rfl⟩
theorem d_X11_slide_95 : gd cX11_slide 95 .ishl 1 96 := ⟨by decide +kernel, rfl⟩
theorem d_X11_slide_96 : gd cX11_slide 96 .ior 1 97 := ⟨by decide +kernel, rfl⟩
theorem d_X11_slide_97 : gd cX11_slide 97 (.istore_n 3) 1 98 := ⟨by decide +kernel, rfl⟩
theorem d_X11_slide_98 : gd cX11_slide 98 (.iinc 4 1) 3 101 := ⟨by decide +kernel, rfl⟩
theorem d_X11_slide_101 : gd cX11_slide 101 (.goto (-60)) 3 104 := ⟨by decide +kernel, rfl⟩
theorem d_X11_slide_104 : gd cX11_slide 104 (.iload_n 3) 1 105 := ⟨by decide +kernel, rfl⟩
theorem d_X11_slide_105 : gd cX11_slide 105 .ireturn 1 106 := ⟨by decide +kernel, rfl⟩
def Bo_X11_slide_41 (q41 : Int32 → Int32 → Int32 → gs_M → Option (Int32 × gs_M)) (x1 : Int32) (x3 : Int32) (x4 : Int32) (μ : gs_M) : Option (Int32 × gs_M) :=
  ck (inb x1 4) (if (gI μ (26 + 2 + 2 * Int32.toNatClampNeg x1) 1) ≤ x4 then (some (x3, μ)) else (ck (inb x1 4) (ck (inb x4 12) (ck (inb x1 4) (ck (inb x4 12) (if (gI μ ((26 + 2 + 2 * Int32.toNatClampNeg x1) + 1) (Int32.toNatClampNeg x4)) ≤ (gI μ ((56 + 2 + 2 * Int32.toNatClampNeg x1) + 1) (Int32.toNatClampNeg x4)) then (q41 x1 x3 (x4 + (1 : Int32)) μ) else (lt1 (x3 ||| ((1 : Int32) <<< (x4 &&& 31))) (fun v8 => q41 x1 v8 (x4 + (1 : Int32)) μ))))))))
def L_X11_slide_41  : Nat → Int32 → Int32 → Int32 → gs_M → Option (Int32 × gs_M)
  | 0 => fun _ _ _ _ => none
  | n + 1 => fun x1 x3 x4 μ => Bo_X11_slide_41  (L_X11_slide_41  n) x1 x3 x4 μ
def D_X11_slide (x1 : Int32) (x2 : Int32) (μ : gs_M) : Option (Int32 × gs_M) :=
  bd (D_X11_isReady μ) (fun v3 u2 => if v3 = 0 then (some ((-1 : Int32), u2)) else (bd (D_X10_hasHold 26 x1 u2) (fun v7 u6 => if v7 = 0 then (some ((-1 : Int32), u6)) else (bd (D_X11_within x2 (0 : Int32) (40 : Int32) u6) (fun v11 u10 => if v11 = 0 then (some ((-1 : Int32), u10)) else (bd (D_X11_tryRoll x2 u10) (fun v15 u14 => L_X11_slide_41 4096 x1 (0 : Int32) (0 : Int32) u14)))))))
section S_X11_slide
variable {p : Program} {l : Launch} {e : Env} {R : Room} {s : State} {m : MethodId} {args : Array Value} {below : List Frame} {meth : Method} {c : Code} {ad : Nat → Nat} {g : va_G} {tyc : Nat → ClassId}
set_option maxRecDepth 20000 in
theorem To_X11_slide_41  (hK : KC p R s m args meth c ad g tyc RX11 cX11_slide 5 (some .int) 6) {r : Int32} {μ2 : gs_M} {q41 : Int32 → Int32 → Int32 → gs_M → Option (Int32 × gs_M)} (hq41 : ∀ (x1 : Int32) (x3 : Int32) (x4 : Int32) (μ : gs_M), q41 x1 x3 x4 μ = some (r, μ2) → WJ p l e R s m args below meth c 0 0 (MQ below (gs_Q ad g tyc (some (.int r)) μ2) args s 0 0 (gs_A ad)) ad g tyc 5 41 [.ref 0, .int x1, gs_J, .int x3, .int x4] [] μ) {x1 : Int32} {x3 : Int32} {x4 : Int32} {μ : gs_M}  (hD : Bo_X11_slide_41 q41 x1 x3 x4 μ = some (r, μ2)) : WJ p l e R s m args below meth c 0 0 (MQ below (gs_Q ad g tyc (some (.int r)) μ2) args s 0 0 (gs_A ad)) ad g tyc 5 41 [.ref 0, .int x1, gs_J, .int x3, .int x4] [] μ := by
  unfold Bo_X11_slide_41 at hD
  refine r_iload hK d_X11_slide_41 rfl ?_
  refine r_aload_n hK d_X11_slide_43 rfl rfl ?_
  refine r_getR hK d_X11_slide_44 fl_RX11_66_10 rfl kd_0 ?_
  refine r_ref (b := 26) R0_0_8 ?_
  refine r_getR hK d_X11_slide_47 fl_RX11_182_9 rfl kd_26 ?_
  refine r_ref (b := (26 + 1)) ((ly_ves _ kd_26).1.1) ?_
  refine r_iload_n hK d_X11_slide_50 rfl rfl ?_
  obtain ⟨h1, hD⟩ := ck_e hD
  refine r_aaldH hK d_X11_slide_51 ((ly_ves _ kd_26).1.2.1) ((ly_ves _ kd_26).1.2.2) (inb_in h1) ?_
  refine r_ref (b := (26 + 2 + 2 * Int32.toNatClampNeg x1)) ((ly_vh _ kd_26 _ (inb_lt h1)).1) ?_
  refine r_getI hK d_X11_slide_52 fl_RX11_355_1 rfl ((ly_vh _ kd_26 _ (inb_lt h1)).2) ?_
  refine r_icmp_ge (tgt := 104) hK d_X11_slide_55 (by decide) (fun h2 => ?_) (fun h2 => ?_)
  · have hD := if_t hD h2
    refine r_iload_n hK d_X11_slide_104 rfl rfl ?_
    cases hD
    exact r_iret hK d_X11_slide_105
  · have hD := if_f hD h2
    refine r_aload_n hK d_X11_slide_58 rfl rfl ?_
    refine r_getR hK d_X11_slide_59 fl_RX11_76_10 rfl kd_0 ?_
    refine r_ref (b := 56) R0_0_11 ?_
    refine r_getR hK d_X11_slide_62 fl_RX11_182_9 rfl kd_56 ?_
    refine r_ref (b := (56 + 1)) ((ly_ves _ kd_56).1.1) ?_
    refine r_iload_n hK d_X11_slide_65 rfl rfl ?_
    obtain ⟨h3, hD⟩ := ck_e hD
    refine r_aaldH hK d_X11_slide_66 ((ly_ves _ kd_56).1.2.1) ((ly_ves _ kd_56).1.2.2) (inb_in h3) ?_
    refine r_ref (b := (56 + 2 + 2 * Int32.toNatClampNeg x1)) ((ly_vh _ kd_56 _ (inb_lt h3)).1) ?_
    refine r_getR hK d_X11_slide_67 fl_RX11_222_1 rfl ((ly_vh _ kd_56 _ (inb_lt h3)).2) ?_
    refine r_ref (b := ((56 + 2 + 2 * Int32.toNatClampNeg x1) + 1)) ((ly_hold _ (ly_vh _ kd_56 _ (inb_lt h3)).2).1) ?_
    refine r_iload hK d_X11_slide_70 rfl ?_
    obtain ⟨h4, hD⟩ := ck_e hD
    refine r_iald hK d_X11_slide_72 ((ly_hold _ (ly_vh _ kd_56 _ (inb_lt h3)).2).2.1) ((ly_hold _ (ly_vh _ kd_56 _ (inb_lt h3)).2).2.2) (inb_in h4) ?_
    refine r_aload_n hK d_X11_slide_73 rfl rfl ?_
    refine r_getR hK d_X11_slide_74 fl_RX11_66_10 rfl kd_0 ?_
    refine r_ref (b := 26) R0_0_8 ?_
    refine r_getR hK d_X11_slide_77 fl_RX11_182_9 rfl kd_26 ?_
    refine r_ref (b := (26 + 1)) ((ly_ves _ kd_26).1.1) ?_
    refine r_iload_n hK d_X11_slide_80 rfl rfl ?_
    obtain ⟨h5, hD⟩ := ck_e hD
    refine r_aaldH hK d_X11_slide_81 ((ly_ves _ kd_26).1.2.1) ((ly_ves _ kd_26).1.2.2) (inb_in h5) ?_
    refine r_ref (b := (26 + 2 + 2 * Int32.toNatClampNeg x1)) ((ly_vh _ kd_26 _ (inb_lt h5)).1) ?_
    refine r_getR hK d_X11_slide_82 fl_RX11_222_1 rfl ((ly_vh _ kd_26 _ (inb_lt h5)).2) ?_
    refine r_ref (b := ((26 + 2 + 2 * Int32.toNatClampNeg x1) + 1)) ((ly_hold _ (ly_vh _ kd_26 _ (inb_lt h5)).2).1) ?_
    refine r_iload hK d_X11_slide_85 rfl ?_
    obtain ⟨h6, hD⟩ := ck_e hD
    refine r_iald hK d_X11_slide_87 ((ly_hold _ (ly_vh _ kd_26 _ (inb_lt h5)).2).2.1) ((ly_hold _ (ly_vh _ kd_26 _ (inb_lt h5)).2).2.2) (inb_in h6) ?_
    refine r_icmp_ge (tgt := 98) hK d_X11_slide_88 (by decide) (fun h7 => ?_) (fun h7 => ?_)
    · have hD := if_t hD h7
      refine r_iinc hK d_X11_slide_98 rfl (v := x4 + (1 : Int32)) (by rw [ci_1]) (by decide) (ls2 := [.ref 0, .int x1, gs_J, .int x3, .int (x4 + (1 : Int32))]) rfl ?_
      refine r_goto (tgt := 41) hK d_X11_slide_101 (by decide) ?_
      exact hq41 _ _ _ _  hD
    · have hD := if_f hD h7
      refine r_iload_n hK d_X11_slide_91 rfl rfl ?_
      refine r_iconst hK d_X11_slide_92 ci_1 ?_
      refine r_iload hK d_X11_slide_93 rfl ?_
      refine r_ishl hK d_X11_slide_95 ?_
      refine r_ior hK d_X11_slide_96 ?_
      refine r_lti hD (fun v8 hD => ?_)
      refine r_istore_n hK d_X11_slide_97 rfl (by decide) (ls2 := [.ref 0, .int x1, gs_J, .int v8, .int x4]) rfl ?_
      refine r_iinc hK d_X11_slide_98 rfl (v := x4 + (1 : Int32)) (by rw [ci_1]) (by decide) (ls2 := [.ref 0, .int x1, gs_J, .int v8, .int (x4 + (1 : Int32))]) rfl ?_
      refine r_goto (tgt := 41) hK d_X11_slide_101 (by decide) ?_
      exact hq41 _ _ _ _  hD
set_option maxRecDepth 20000 in
theorem TL_X11_slide_41  (hK : KC p R s m args meth c ad g tyc RX11 cX11_slide 5 (some .int) 6) {r : Int32} {μ2 : gs_M}   : ∀ (n : Nat) (x1 : Int32) (x3 : Int32) (x4 : Int32) (μ : gs_M), L_X11_slide_41  n x1 x3 x4 μ = some (r, μ2) → WJ p l e R s m args below meth c 0 0 (MQ below (gs_Q ad g tyc (some (.int r)) μ2) args s 0 0 (gs_A ad)) ad g tyc 5 41 [.ref 0, .int x1, gs_J, .int x3, .int x4] [] μ := by
  intro n
  induction n with
  | zero => intro x1 x3 x4 μ  hD; cases hD
  | succ n ih => intro x1 x3 x4 μ  hD; exact To_X11_slide_41 hK  ih  hD
set_option maxRecDepth 20000 in
theorem C_X11_slide  {x1 : Int32} {x2 : Int32} {μ : gs_M} {r : Int32} {μ2 : gs_M}  (hD : D_X11_slide x1 x2 μ = some (r, μ2)) : CALL yX11_slide cX11_slide 5 (some .int) 6 [.ref 0, .int x1, .int x2] μ (some (.int r)) μ2 := by
  unfold D_X11_slide at hD
  refine gs_enter mf_X11_slide (Nat.le_of_ble_eq_true rfl) (ls := [.ref 0, .int x1, .int x2, gs_J, gs_J]) rfl (fun p l e R s m args below meth c ad g tyc hK => ?_)
  have hK : KC p R s m args meth c ad g tyc RX11 cX11_slide 5 (some .int) 6 := hK
  refine r_aload_n hK d_X11_slide_0 rfl rfl ?_
  obtain ⟨v3, u2, e1, hD⟩ := bd_e hD
  refine r_callV (As := []) (st := []) (stk2 := [.int v3]) hK (C_X11_isReady  e1) d_X11_slide_1 mf_X11_isReady ml_RX11_206 im_X11_isReady rfl se_10_RX11_X11_isReady kd_0 rfl (Nat.le_of_ble_eq_true rfl) (by decide) ⟨Nat.zero_le _, Nat.zero_le _⟩ rfl rfl ?_
  refine r_if_eq (tgt := 28) hK d_X11_slide_4 (by decide) (fun h4 => ?_) (fun h4 => ?_)
  · have hD := if_t hD h4
    refine r_iconst hK d_X11_slide_28 ci_m1 ?_
    cases hD
    exact r_iret hK d_X11_slide_29
  · have hD := if_f hD h4
    refine r_aload_n hK d_X11_slide_7 rfl rfl ?_
    refine r_getR hK d_X11_slide_8 fl_RX11_66_10 rfl kd_0 ?_
    refine r_ref (b := 26) R0_0_8 ?_
    refine r_iload_n hK d_X11_slide_11 rfl rfl ?_
    obtain ⟨v7, u6, e5, hD⟩ := bd_e hD
    refine r_callV (As := [.int x1]) (st := []) (stk2 := [.int v7]) hK (C_X10_hasHold kd_26 e5) d_X11_slide_12 mf_X10_hasHold ml_RX11_228 im_X10_hasHold rfl se_9_RX10_X10_hasHold kd_26 rfl (Nat.le_of_ble_eq_true rfl) (by decide) ⟨Nat.zero_le _, Nat.zero_le _⟩ rfl rfl ?_
    refine r_if_eq (tgt := 28) hK d_X11_slide_15 (by decide) (fun h8 => ?_) (fun h8 => ?_)
    · have hD := if_t hD h8
      refine r_iconst hK d_X11_slide_28 ci_m1 ?_
      cases hD
      exact r_iret hK d_X11_slide_29
    · have hD := if_f hD h8
      refine r_iload_n hK d_X11_slide_18 rfl rfl ?_
      refine r_iconst hK d_X11_slide_19 ci_0 ?_
      refine r_bipush hK d_X11_slide_20 cb_40 ?_
      obtain ⟨v11, u10, e9, hD⟩ := bd_e hD
      refine r_callS (As := [.int x2, .int (0 : Int32), .int (40 : Int32)]) (st := []) (stk2 := [.int v11]) hK (C_X11_within  e9) d_X11_slide_22 mf_X11_within ml_RX11_123 ss_X11_within rfl (Nat.le_of_ble_eq_true rfl) (by decide) ⟨Nat.zero_le _, Nat.zero_le _⟩ rfl rfl ?_
      refine r_if_ne (tgt := 30) hK d_X11_slide_25 (by decide) (fun h12 => ?_) (fun h12 => ?_)
      · have hD := if_f hD h12
        refine r_aload_n hK d_X11_slide_30 rfl rfl ?_
        refine r_iload_n hK d_X11_slide_31 rfl rfl ?_
        obtain ⟨v15, u14, e13, hD⟩ := bd_e hD
        refine r_callV (As := [.int x2]) (st := []) (stk2 := [.int v15]) hK (C_X11_tryRoll  e13) d_X11_slide_32 mf_X11_tryRoll ml_RX11_269 im_X11_tryRoll rfl se_10_RX11_X11_tryRoll kd_0 rfl (Nat.le_of_ble_eq_true rfl) (by decide) ⟨Nat.zero_le _, Nat.zero_le _⟩ rfl rfl ?_
        refine r_pop hK d_X11_slide_35 rfl ?_
        refine r_iconst hK d_X11_slide_36 ci_0 ?_
        refine r_istore_n hK d_X11_slide_37 rfl (by decide) (ls2 := [.ref 0, .int x1, .int x2, .int (0 : Int32), gs_J]) rfl ?_
        refine r_iconst hK d_X11_slide_38 ci_0 ?_
        refine r_istore hK d_X11_slide_39 (by decide) (ls2 := [.ref 0, .int x1, .int x2, .int (0 : Int32), .int (0 : Int32)]) rfl ?_
        refine r_junk [true, true, false, true, true] (ls2 := [.ref 0, .int x1, gs_J, .int (0 : Int32), .int (0 : Int32)]) rfl ?_
        exact TL_X11_slide_41 hK  _ _ _ _ _  hD
      · have hD := if_t hD h12
        refine r_iconst hK d_X11_slide_28 ci_m1 ?_
        cases hD
        exact r_iret hK d_X11_slide_29
end S_X11_slide
theorem d_X11_port_0 : gd cX11_port 0 (.iload_n 1) 1 1 := ⟨by decide +kernel, rfl⟩
theorem d_X11_port_1 : gd cX11_port 1 (.iconst 1) 1 2 := ⟨by decide +kernel, rfl⟩
theorem d_X11_port_2 : gd cX11_port 2 (.bipush 9) 2 4 := ⟨by decide +kernel, rfl⟩
theorem d_X11_port_4 : gd cX11_port 4 (.invokestatic 123) 3 7 := ⟨by decide +kernel, rfl⟩
theorem d_X11_port_7 : gd cX11_port 7 (.ifCond .eq 26) 3 10 := ⟨by decide +kernel, rfl⟩
theorem d_X11_port_10 : gd cX11_port 10 (.iload_n 2) 1 11 := ⟨by decide +kernel, rfl⟩
theorem d_X11_port_11 : gd cX11_port 11 (.iconst 0) 1 12 := ⟨by decide +kernel, rfl⟩
theorem d_X11_port_12 : gd cX11_port 12 (.sipush 9999) 3 15 := ⟨by decide +kernel, rfl⟩
theorem d_X11_port_15 : gd cX11_port 15 (.invokestatic 123) 3 18 := ⟨by decide +kernel, rfl⟩
theorem d_X11_port_18 : gd cX11_port 18 (.ifCond .eq 15) 3 21 := ⟨by decide +kernel, rfl⟩
theorem d_X11_port_21 : gd cX11_port 21 (.aload_n 0) 1 22 := ⟨by decide +kernel, rfl⟩
theorem d_X11_port_22 : gd cX11_port 22 (.getfield 86) 3 25 := ⟨by decide +kernel, rfl⟩
theorem d_X11_port_25 : gd cX11_port 25 (.iload_n 1) 1 26 := ⟨by decide +kernel, rfl⟩
theorem d_X11_port_26 : gd cX11_port 26 (.iload_n 2) 1 27 := ⟨by decide +kernel, rfl⟩
theorem d_X11_port_27 : gd cX11_port 27 (.invokevirtual 291) 3 30 := ⟨by decide +kernel, rfl⟩
theorem d_X11_port_30 : gd cX11_port 30 (.goto 4) 3 33 := ⟨by decide +kernel, rfl⟩
theorem d_X11_port_33 : gd cX11_port 33 (.iconst (-1)) 1 34 := ⟨by decide +kernel, rfl⟩
theorem d_X11_port_34 : gd cX11_port 34 .ireturn 1 35 := ⟨by decide +kernel, rfl⟩
def B_X11_port_33   (μ : gs_M) : Option (Int32 × gs_M) :=
  some ((-1 : Int32), μ)
def D_X11_port (x1 : Int32) (x2 : Int32) (μ : gs_M) : Option (Int32 × gs_M) :=
  bd (D_X11_within x1 (1 : Int32) (9 : Int32) μ) (fun v3 u2 => if v3 = 0 then (B_X11_port_33 u2) else (bd (D_X11_within x2 (0 : Int32) (9999 : Int32) u2) (fun v7 u6 => if v7 = 0 then (B_X11_port_33 u6) else (bd (D_X3_keep 69 x1 x2 u6) (fun v11 u10 => some (v11, u10))))))
section S_X11_port
variable {p : Program} {l : Launch} {e : Env} {R : Room} {s : State} {m : MethodId} {args : Array Value} {below : List Frame} {meth : Method} {c : Code} {ad : Nat → Nat} {g : va_G} {tyc : Nat → ClassId}
set_option maxRecDepth 20000 in
theorem T_X11_port_33  (hK : KC p R s m args meth c ad g tyc RX11 cX11_port 3 (some .int) 1) {r : Int32} {μ2 : gs_M}    {μ : gs_M}  (hD : B_X11_port_33   μ = some (r, μ2)) : WJ p l e R s m args below meth c 0 0 (MQ below (gs_Q ad g tyc (some (.int r)) μ2) args s 0 0 (gs_A ad)) ad g tyc 3 33 [gs_J, gs_J, gs_J] [] μ := by
  unfold B_X11_port_33 at hD
  refine r_iconst hK d_X11_port_33 ci_m1 ?_
  cases hD
  exact r_iret hK d_X11_port_34
set_option maxRecDepth 20000 in
theorem C_X11_port  {x1 : Int32} {x2 : Int32} {μ : gs_M} {r : Int32} {μ2 : gs_M}  (hD : D_X11_port x1 x2 μ = some (r, μ2)) : CALL yX11_port cX11_port 3 (some .int) 1 [.ref 0, .int x1, .int x2] μ (some (.int r)) μ2 := by
  unfold D_X11_port at hD
  refine gs_enter mf_X11_port (Nat.le_of_ble_eq_true rfl) (ls := [.ref 0, .int x1, .int x2]) rfl (fun p l e R s m args below meth c ad g tyc hK => ?_)
  have hK : KC p R s m args meth c ad g tyc RX11 cX11_port 3 (some .int) 1 := hK
  refine r_iload_n hK d_X11_port_0 rfl rfl ?_
  refine r_iconst hK d_X11_port_1 ci_1 ?_
  refine r_bipush hK d_X11_port_2 cb_9 ?_
  obtain ⟨v3, u2, e1, hD⟩ := bd_e hD
  refine r_callS (As := [.int x1, .int (1 : Int32), .int (9 : Int32)]) (st := []) (stk2 := [.int v3]) hK (C_X11_within  e1) d_X11_port_4 mf_X11_within ml_RX11_123 ss_X11_within rfl (Nat.le_of_ble_eq_true rfl) (by decide) ⟨Nat.zero_le _, Nat.zero_le _⟩ rfl rfl ?_
  refine r_if_eq (tgt := 33) hK d_X11_port_7 (by decide) (fun h4 => ?_) (fun h4 => ?_)
  · have hD := if_t hD h4
    refine r_junk [false, false, false] (ls2 := [gs_J, gs_J, gs_J]) rfl ?_
    exact T_X11_port_33 hK   hD
  · have hD := if_f hD h4
    refine r_iload_n hK d_X11_port_10 rfl rfl ?_
    refine r_iconst hK d_X11_port_11 ci_0 ?_
    refine r_sipush hK d_X11_port_12 cs_9999 ?_
    obtain ⟨v7, u6, e5, hD⟩ := bd_e hD
    refine r_callS (As := [.int x2, .int (0 : Int32), .int (9999 : Int32)]) (st := []) (stk2 := [.int v7]) hK (C_X11_within  e5) d_X11_port_15 mf_X11_within ml_RX11_123 ss_X11_within rfl (Nat.le_of_ble_eq_true rfl) (by decide) ⟨Nat.zero_le _, Nat.zero_le _⟩ rfl rfl ?_
    refine r_if_eq (tgt := 33) hK d_X11_port_18 (by decide) (fun h8 => ?_) (fun h8 => ?_)
    · have hD := if_t hD h8
      refine r_junk [false, false, false] (ls2 := [gs_J, gs_J, gs_J]) rfl ?_
      exact T_X11_port_33 hK   hD
    · have hD := if_f hD h8
      refine r_aload_n hK d_X11_port_21 rfl rfl ?_
      refine r_getR hK d_X11_port_22 fl_RX11_86_10 rfl kd_0 ?_
      refine r_ref (b := 69) R0_0_13 ?_
      refine r_iload_n hK d_X11_port_25 rfl rfl ?_
      refine r_iload_n hK d_X11_port_26 rfl rfl ?_
      obtain ⟨v11, u10, e9, hD⟩ := bd_e hD
      refine r_callV (As := [.int x1, .int x2]) (st := []) (stk2 := [.int v11]) hK (C_X3_keep kd_69 e9) d_X11_port_27 mf_X3_keep ml_RX11_291 im_X3_keep rfl se_3_RX3_X3_keep kd_69 rfl (Nat.le_of_ble_eq_true rfl) (by decide) ⟨Nat.zero_le _, Nat.zero_le _⟩ rfl rfl ?_
      refine r_goto (tgt := 34) hK d_X11_port_30 (by decide) ?_
      cases hD
      exact r_iret hK d_X11_port_34
end S_X11_port
theorem d_X11_portsReached_0 : gd cX11_portsReached 0 (.iconst 0) 1 1 := ⟨by decide +kernel, rfl⟩
theorem d_X11_portsReached_1 : gd cX11_portsReached 1 (.istore_n 2) 1 2 := ⟨by decide +kernel, rfl⟩
theorem d_X11_portsReached_2 : gd cX11_portsReached 2 (.aload_n 0) 1 3 := ⟨by decide +kernel, rfl⟩
theorem d_X11_portsReached_3 : gd cX11_portsReached 3 (.getfield 76) 3 6 := ⟨by decide +kernel, rfl⟩
theorem d_X11_portsReached_6 : gd cX11_portsReached 6 (.aload_n 0) 1 7 := ⟨by decide +kernel, rfl⟩
theorem d_X11_portsReached_7 : gd cX11_portsReached 7 (.getfield 66) 3 10 := ⟨by decide +kernel, rfl⟩
theorem d_X11_portsReached_10 : gd cX11_portsReached 10 (.invokevirtual 278) 3 13 := ⟨by decide +kernel, rfl⟩
theorem d_X11_portsReached_13 : gd cX11_portsReached 13 (.iconst 1) 1 14 := ⟨by decide +kernel, rfl⟩
theorem d_X11_portsReached_14 : gd cX11_portsReached 14 (.istore_n 3) 1 15 := ⟨by decide +kernel, rfl⟩
theorem d_X11_portsReached_15 : gd cX11_portsReached 15 (.iload_n 3) 1 16 := ⟨by decide +kernel, rfl⟩
theorem d_X11_portsReached_16 : gd cX11_portsReached 16 (.bipush 9) 2 18 := ⟨by decide +kernel, rfl⟩
theorem d_X11_portsReached_18 : gd cX11_portsReached 18 (.if_icmp .gt 70) 3 21 := ⟨by decide +kernel, rfl⟩
theorem d_X11_portsReached_21 : gd cX11_portsReached 21 (.aload_n 0) 1 22 := ⟨by decide +kernel, rfl⟩
theorem d_X11_portsReached_22 : gd cX11_portsReached 22 (.getfield 76) 3 25 := ⟨by decide +kernel, rfl⟩
theorem d_X11_portsReached_25 : gd cX11_portsReached 25 (.iload_n 1) 1 26 := ⟨by decide +kernel, rfl⟩
theorem d_X11_portsReached_26 : gd cX11_portsReached 26 (.iconst 1) 1 27 := ⟨by decide +kernel, rfl⟩
theorem d_X11_portsReached_27 : gd cX11_portsReached 27 (.invokevirtual 213) 3 30 := ⟨by decide +kernel, rfl⟩
theorem d_X11_portsReached_30 : gd cX11_portsReached 30 (.iconst 0) 1 31 := ⟨by decide +kernel, rfl⟩
theorem d_X11_portsReached_31 : gd cX11_portsReached 31 (.istore 4) 2 33 := ⟨by decide +kernel, rfl⟩
theorem d_X11_portsReached_33 : gd cX11_portsReached 33 (.iload 4) 2 35 := ⟨by decide +kernel, rfl⟩
theorem d_X11_portsReached_35 : gd cX11_portsReached 35 (.aload_n 0) 1 36 := ⟨by decide +kernel, rfl⟩
theorem d_X11_portsReached_36 : gd cX11_portsReached 36 (.getfield 86) 3 39 := ⟨by decide +kernel, rfl⟩
theorem d_X11_portsReached_39 : gd cX11_portsReached 39 (.getfield 293) 3 42 := ⟨by decide +kernel, rfl⟩
theorem d_X11_portsReached_42 : gd cX11_portsReached 42 (.if_icmp .ge 40) 3 45 := ⟨by decide +kernel, rfl⟩
theorem d_X11_portsReached_45 : gd cX11_portsReached 45 (.aload_n 0) 1 46 := ⟨by decide +kernel, rfl⟩
theorem d_X11_portsReached_46 : gd cX11_portsReached 46 (.getfield 76) 3 49 := ⟨by decide +kernel, rfl⟩
theorem d_X11_portsReached_49 : gd cX11_portsReached 49 (.getfield 262) 3 52 := ⟨by decide +kernel, rfl⟩
theorem d_X11_portsReached_52 : gd cX11_portsReached 52 (.ifCond .ne 24) 3 55 := ⟨by decide +kernel, rfl⟩
theorem d_X11_portsReached_55 : gd cX11_portsReached 55 (.aload_n 0) 1 56 := ⟨by decide +kernel, rfl⟩
theorem d_X11_portsReached_56 : gd cX11_portsReached 56 (.getfield 86) 3 59 := ⟨by decide +kernel, rfl⟩
theorem d_X11_portsReached_59 : gd cX11_portsReached 59 (.getfield 294) 3 62 := ⟨by decide +kernel, rfl⟩
theorem d_X11_portsReached_62 : gd cX11_portsReached 62 (.iload 4) 2 64 := ⟨by decide +kernel, rfl⟩
theorem d_X11_portsReached_64 : gd cX11_portsReached 64 .iaload 1 65 := ⟨by decide +kernel, rfl⟩
theorem d_X11_portsReached_65 : gd cX11_portsReached 65 (.iload_n 3) 1 66 := ⟨by decide +kernel, rfl⟩
theorem d_X11_portsReached_66 : gd cX11_portsReached 66 (.if_icmp .ne 10) 3 69 := ⟨by decide +kernel, rfl⟩
theorem d_X11_portsReached_69 : gd cX11_portsReached 69 (.iload_n 2) 1 70 := ⟨by decide +kernel, rfl⟩
theorem d_X11_portsReached_70 : gd cX11_portsReached 70 (.iconst 1) 1 71 := ⟨by decide +kernel, rfl⟩
theorem d_X11_portsReached_71 : gd cX11_portsReached 71 (.iload 4) 2 73 := ⟨by decide +kernel, rfl⟩
theorem d_X11_portsReached_73 : gd cX11_portsReached 73 .ishl 1 74 := ⟨by decide +kernel, rfl⟩
theorem d_X11_portsReached_74 : gd cX11_portsReached 74 .ior 1 75 := ⟨by decide +kernel, rfl⟩
theorem d_X11_portsReached_75 : gd cX11_portsReached 75 (.istore_n 2) 1 76 := ⟨by decide +kernel, rfl⟩
theorem d_X11_portsReached_76 : gd cX11_portsReached 76 (.iinc 4 1) 3 79 := ⟨by decide +kernel, rfl⟩
theorem d_X11_portsReached_79 : gd cX11_portsReached 79 (.goto (-46)) 3 82 := ⟨by decide +kernel, rfl⟩
theorem d_X11_portsReached_82 : gd cX11_portsReached 82 (.iinc 3 1) 3 85 := ⟨by decide +kernel, rfl⟩
theorem d_X11_portsReached_85 : gd cX11_portsReached 85 (.goto (-70)) 3 88 := ⟨by decide +kernel, rfl⟩
theorem d_X11_portsReached_88 : gd cX11_portsReached 88 (.iload_n 2) 1 89 := ⟨by decide +kernel, rfl⟩
theorem d_X11_portsReached_89 : gd cX11_portsReached 89 .ireturn 1 90 := ⟨by decide +kernel, rfl⟩
def Bo_X11_portsReached_33 (q15 : Int32 → Int32 → Int32 → gs_M → Option (Int32 × gs_M)) (q33 : Int32 → Int32 → Int32 → Int32 → gs_M → Option (Int32 × gs_M)) (x1 : Int32) (x2 : Int32) (x3 : Int32) (x4 : Int32) (μ : gs_M) : Option (Int32 × gs_M) :=
  if (gI μ 69 2) ≤ x4 then (q15 x1 x2 (x3 + (1 : Int32)) μ) else (if (gI μ 56 4) = 0 then (ck (inb x4 6) (if (gI μ (69 + 1) (Int32.toNatClampNeg x4)) = x3 then (lt1 (x2 ||| ((1 : Int32) <<< (x4 &&& 31))) (fun v5 => q33 x1 v5 x3 (x4 + (1 : Int32)) μ)) else (q33 x1 x2 x3 (x4 + (1 : Int32)) μ))) else (q33 x1 x2 x3 (x4 + (1 : Int32)) μ))
def L_X11_portsReached_33 (q15 : Int32 → Int32 → Int32 → gs_M → Option (Int32 × gs_M)) : Nat → Int32 → Int32 → Int32 → Int32 → gs_M → Option (Int32 × gs_M)
  | 0 => fun _ _ _ _ _ => none
  | n + 1 => fun x1 x2 x3 x4 μ => Bo_X11_portsReached_33 q15 (L_X11_portsReached_33 q15 n) x1 x2 x3 x4 μ
def Bo_X11_portsReached_15 (q15 : Int32 → Int32 → Int32 → gs_M → Option (Int32 × gs_M)) (x1 : Int32) (x2 : Int32) (x3 : Int32) (μ : gs_M) : Option (Int32 × gs_M) :=
  if (9 : Int32) < x3 then (some (x2, μ)) else (bd0 (D_X10_sail 56 x1 (1 : Int32) μ) (fun u3 => L_X11_portsReached_33 q15 4096 x1 x2 x3 (0 : Int32) u3))
def L_X11_portsReached_15  : Nat → Int32 → Int32 → Int32 → gs_M → Option (Int32 × gs_M)
  | 0 => fun _ _ _ _ => none
  | n + 1 => fun x1 x2 x3 μ => Bo_X11_portsReached_15  (L_X11_portsReached_15  n) x1 x2 x3 μ
def D_X11_portsReached (x1 : Int32) (μ : gs_M) : Option (Int32 × gs_M) :=
  bd0 (D_X10_become 56 26 μ) (fun u2 => L_X11_portsReached_15 4096 x1 (0 : Int32) (1 : Int32) u2)
section S_X11_portsReached
variable {p : Program} {l : Launch} {e : Env} {R : Room} {s : State} {m : MethodId} {args : Array Value} {below : List Frame} {meth : Method} {c : Code} {ad : Nat → Nat} {g : va_G} {tyc : Nat → ClassId}
set_option maxRecDepth 20000 in
theorem To_X11_portsReached_33  (hK : KC p R s m args meth c ad g tyc RX11 cX11_portsReached 5 (some .int) 6) {r : Int32} {μ2 : gs_M} {q15 : Int32 → Int32 → Int32 → gs_M → Option (Int32 × gs_M)} {q33 : Int32 → Int32 → Int32 → Int32 → gs_M → Option (Int32 × gs_M)} (hq15 : ∀ (x1 : Int32) (x2 : Int32) (x3 : Int32) (μ : gs_M), q15 x1 x2 x3 μ = some (r, μ2) → WJ p l e R s m args below meth c 0 0 (MQ below (gs_Q ad g tyc (some (.int r)) μ2) args s 0 0 (gs_A ad)) ad g tyc 5 15 [.ref 0, .int x1, .int x2, .int x3, gs_J] [] μ) (hq33 : ∀ (x1 : Int32) (x2 : Int32) (x3 : Int32) (x4 : Int32) (μ : gs_M), q33 x1 x2 x3 x4 μ = some (r, μ2) → WJ p l e R s m args below meth c 0 0 (MQ below (gs_Q ad g tyc (some (.int r)) μ2) args s 0 0 (gs_A ad)) ad g tyc 5 33 [.ref 0, .int x1, .int x2, .int x3, .int x4] [] μ) {x1 : Int32} {x2 : Int32} {x3 : Int32} {x4 : Int32} {μ : gs_M}  (hD : Bo_X11_portsReached_33 q15 q33 x1 x2 x3 x4 μ = some (r, μ2)) : WJ p l e R s m args below meth c 0 0 (MQ below (gs_Q ad g tyc (some (.int r)) μ2) args s 0 0 (gs_A ad)) ad g tyc 5 33 [.ref 0, .int x1, .int x2, .int x3, .int x4] [] μ := by
  unfold Bo_X11_portsReached_33 at hD
  refine r_iload hK d_X11_portsReached_33 rfl ?_
  refine r_aload_n hK d_X11_portsReached_35 rfl rfl ?_
  refine r_getR hK d_X11_portsReached_36 fl_RX11_86_10 rfl kd_0 ?_
  refine r_ref (b := 69) R0_0_13 ?_
  refine r_getI hK d_X11_portsReached_39 fl_RX11_293_3 rfl kd_69 ?_
  refine r_icmp_ge (tgt := 82) hK d_X11_portsReached_42 (by decide) (fun h1 => ?_) (fun h1 => ?_)
  · have hD := if_t hD h1
    refine r_iinc hK d_X11_portsReached_82 rfl (v := x3 + (1 : Int32)) (by rw [ci_1]) (by decide) (ls2 := [.ref 0, .int x1, .int x2, .int (x3 + (1 : Int32)), .int x4]) rfl ?_
    refine r_goto (tgt := 15) hK d_X11_portsReached_85 (by decide) ?_
    refine r_junk [true, true, true, true, false] (ls2 := [.ref 0, .int x1, .int x2, .int (x3 + (1 : Int32)), gs_J]) rfl ?_
    exact hq15 _ _ _ _  hD
  · have hD := if_f hD h1
    refine r_aload_n hK d_X11_portsReached_45 rfl rfl ?_
    refine r_getR hK d_X11_portsReached_46 fl_RX11_76_10 rfl kd_0 ?_
    refine r_ref (b := 56) R0_0_11 ?_
    refine r_getZ hK d_X11_portsReached_49 fl_RX11_262_9 rfl kd_56 ?_
    refine r_if_ne (tgt := 76) hK d_X11_portsReached_52 (by decide) (fun h2 => ?_) (fun h2 => ?_)
    · have hD := if_f hD h2
      refine r_iinc hK d_X11_portsReached_76 rfl (v := x4 + (1 : Int32)) (by rw [ci_1]) (by decide) (ls2 := [.ref 0, .int x1, .int x2, .int x3, .int (x4 + (1 : Int32))]) rfl ?_
      refine r_goto (tgt := 33) hK d_X11_portsReached_79 (by decide) ?_
      exact hq33 _ _ _ _ _  hD
    · have hD := if_t hD h2
      refine r_aload_n hK d_X11_portsReached_55 rfl rfl ?_
      refine r_getR hK d_X11_portsReached_56 fl_RX11_86_10 rfl kd_0 ?_
      refine r_ref (b := 69) R0_0_13 ?_
      refine r_getR hK d_X11_portsReached_59 fl_RX11_294_3 rfl kd_69 ?_
      refine r_ref (b := (69 + 1)) ((ly_pairs _ kd_69).1.1) ?_
      refine r_iload hK d_X11_portsReached_62 rfl ?_
      obtain ⟨h3, hD⟩ := ck_e hD
      refine r_iald hK d_X11_portsReached_64 ((ly_pairs _ kd_69).1.2.1) ((ly_pairs _ kd_69).1.2.2) (inb_in h3) ?_
      refine r_iload_n hK d_X11_portsReached_65 rfl rfl ?_
      refine r_icmp_ne (tgt := 76) hK d_X11_portsReached_66 (by decide) (fun h4 => ?_) (fun h4 => ?_)
      · have hD := if_f hD h4
        refine r_iinc hK d_X11_portsReached_76 rfl (v := x4 + (1 : Int32)) (by rw [ci_1]) (by decide) (ls2 := [.ref 0, .int x1, .int x2, .int x3, .int (x4 + (1 : Int32))]) rfl ?_
        refine r_goto (tgt := 33) hK d_X11_portsReached_79 (by decide) ?_
        exact hq33 _ _ _ _ _  hD
      · have hD := if_t hD h4
        refine r_iload_n hK d_X11_portsReached_69 rfl rfl ?_
        refine r_iconst hK d_X11_portsReached_70 ci_1 ?_
        refine r_iload hK d_X11_portsReached_71 rfl ?_
        refine r_ishl hK d_X11_portsReached_73 ?_
        refine r_ior hK d_X11_portsReached_74 ?_
        refine r_lti hD (fun v5 hD => ?_)
        refine r_istore_n hK d_X11_portsReached_75 rfl (by decide) (ls2 := [.ref 0, .int x1, .int v5, .int x3, .int x4]) rfl ?_
        refine r_iinc hK d_X11_portsReached_76 rfl (v := x4 + (1 : Int32)) (by rw [ci_1]) (by decide) (ls2 := [.ref 0, .int x1, .int v5, .int x3, .int (x4 + (1 : Int32))]) rfl ?_
        refine r_goto (tgt := 33) hK d_X11_portsReached_79 (by decide) ?_
        exact hq33 _ _ _ _ _  hD
set_option maxRecDepth 20000 in
theorem TL_X11_portsReached_33  (hK : KC p R s m args meth c ad g tyc RX11 cX11_portsReached 5 (some .int) 6) {r : Int32} {μ2 : gs_M} {q15 : Int32 → Int32 → Int32 → gs_M → Option (Int32 × gs_M)} (hq15 : ∀ (x1 : Int32) (x2 : Int32) (x3 : Int32) (μ : gs_M), q15 x1 x2 x3 μ = some (r, μ2) → WJ p l e R s m args below meth c 0 0 (MQ below (gs_Q ad g tyc (some (.int r)) μ2) args s 0 0 (gs_A ad)) ad g tyc 5 15 [.ref 0, .int x1, .int x2, .int x3, gs_J] [] μ) : ∀ (n : Nat) (x1 : Int32) (x2 : Int32) (x3 : Int32) (x4 : Int32) (μ : gs_M), L_X11_portsReached_33 q15 n x1 x2 x3 x4 μ = some (r, μ2) → WJ p l e R s m args below meth c 0 0 (MQ below (gs_Q ad g tyc (some (.int r)) μ2) args s 0 0 (gs_A ad)) ad g tyc 5 33 [.ref 0, .int x1, .int x2, .int x3, .int x4] [] μ := by
  intro n
  induction n with
  | zero => intro x1 x2 x3 x4 μ  hD; cases hD
  | succ n ih => intro x1 x2 x3 x4 μ  hD; exact To_X11_portsReached_33 hK hq15 ih  hD
set_option maxRecDepth 20000 in
theorem To_X11_portsReached_15  (hK : KC p R s m args meth c ad g tyc RX11 cX11_portsReached 5 (some .int) 6) {r : Int32} {μ2 : gs_M} {q15 : Int32 → Int32 → Int32 → gs_M → Option (Int32 × gs_M)} (hq15 : ∀ (x1 : Int32) (x2 : Int32) (x3 : Int32) (μ : gs_M), q15 x1 x2 x3 μ = some (r, μ2) → WJ p l e R s m args below meth c 0 0 (MQ below (gs_Q ad g tyc (some (.int r)) μ2) args s 0 0 (gs_A ad)) ad g tyc 5 15 [.ref 0, .int x1, .int x2, .int x3, gs_J] [] μ) {x1 : Int32} {x2 : Int32} {x3 : Int32} {μ : gs_M}  (hD : Bo_X11_portsReached_15 q15 x1 x2 x3 μ = some (r, μ2)) : WJ p l e R s m args below meth c 0 0 (MQ below (gs_Q ad g tyc (some (.int r)) μ2) args s 0 0 (gs_A ad)) ad g tyc 5 15 [.ref 0, .int x1, .int x2, .int x3, gs_J] [] μ := by
  unfold Bo_X11_portsReached_15 at hD
  refine r_iload_n hK d_X11_portsReached_15 rfl rfl ?_
  refine r_bipush hK d_X11_portsReached_16 cb_9 ?_
  refine r_icmp_gt (tgt := 88) hK d_X11_portsReached_18 (by decide) (fun h1 => ?_) (fun h1 => ?_)
  · have hD := if_t hD h1
    refine r_iload_n hK d_X11_portsReached_88 rfl rfl ?_
    cases hD
    exact r_iret hK d_X11_portsReached_89
  · have hD := if_f hD h1
    refine r_aload_n hK d_X11_portsReached_21 rfl rfl ?_
    refine r_getR hK d_X11_portsReached_22 fl_RX11_76_10 rfl kd_0 ?_
    refine r_ref (b := 56) R0_0_11 ?_
    refine r_iload_n hK d_X11_portsReached_25 rfl rfl ?_
    refine r_iconst hK d_X11_portsReached_26 ci_1 ?_
    obtain ⟨u3, e2, hD⟩ := bd0_e hD
    refine r_callV (As := [.int x1, .int (1 : Int32)]) (st := []) (stk2 := []) hK (C_X10_sail kd_56 e2) d_X11_portsReached_27 mf_X10_sail ml_RX11_213 im_X10_sail rfl se_9_RX10_X10_sail kd_56 rfl (Nat.le_of_ble_eq_true rfl) (by decide) ⟨Nat.zero_le _, Nat.zero_le _⟩ rfl rfl ?_
    refine r_iconst hK d_X11_portsReached_30 ci_0 ?_
    refine r_istore hK d_X11_portsReached_31 (by decide) (ls2 := [.ref 0, .int x1, .int x2, .int x3, .int (0 : Int32)]) rfl ?_
    exact TL_X11_portsReached_33 hK hq15 _ _ _ _ _ _  hD
set_option maxRecDepth 20000 in
theorem TL_X11_portsReached_15  (hK : KC p R s m args meth c ad g tyc RX11 cX11_portsReached 5 (some .int) 6) {r : Int32} {μ2 : gs_M}   : ∀ (n : Nat) (x1 : Int32) (x2 : Int32) (x3 : Int32) (μ : gs_M), L_X11_portsReached_15  n x1 x2 x3 μ = some (r, μ2) → WJ p l e R s m args below meth c 0 0 (MQ below (gs_Q ad g tyc (some (.int r)) μ2) args s 0 0 (gs_A ad)) ad g tyc 5 15 [.ref 0, .int x1, .int x2, .int x3, gs_J] [] μ := by
  intro n
  induction n with
  | zero => intro x1 x2 x3 μ  hD; cases hD
  | succ n ih => intro x1 x2 x3 μ  hD; exact To_X11_portsReached_15 hK  ih  hD
set_option maxRecDepth 20000 in
theorem C_X11_portsReached  {x1 : Int32} {μ : gs_M} {r : Int32} {μ2 : gs_M}  (hD : D_X11_portsReached x1 μ = some (r, μ2)) : CALL yX11_portsReached cX11_portsReached 5 (some .int) 6 [.ref 0, .int x1] μ (some (.int r)) μ2 := by
  unfold D_X11_portsReached at hD
  refine gs_enter mf_X11_portsReached (Nat.le_of_ble_eq_true rfl) (ls := [.ref 0, .int x1, gs_J, gs_J, gs_J]) rfl (fun p l e R s m args below meth c ad g tyc hK => ?_)
  have hK : KC p R s m args meth c ad g tyc RX11 cX11_portsReached 5 (some .int) 6 := hK
  refine r_iconst hK d_X11_portsReached_0 ci_0 ?_
  refine r_istore_n hK d_X11_portsReached_1 rfl (by decide) (ls2 := [.ref 0, .int x1, .int (0 : Int32), gs_J, gs_J]) rfl ?_
  refine r_aload_n hK d_X11_portsReached_2 rfl rfl ?_
  refine r_getR hK d_X11_portsReached_3 fl_RX11_76_10 rfl kd_0 ?_
  refine r_ref (b := 56) R0_0_11 ?_
  refine r_aload_n hK d_X11_portsReached_6 rfl rfl ?_
  refine r_getR hK d_X11_portsReached_7 fl_RX11_66_10 rfl kd_0 ?_
  refine r_ref (b := 26) R0_0_8 ?_
  obtain ⟨u2, e1, hD⟩ := bd0_e hD
  refine r_callV (As := [.ref 26]) (st := []) (stk2 := []) hK (C_X10_become kd_56 kd_26 e1) d_X11_portsReached_10 mf_X10_become ml_RX11_278 im_X10_become rfl se_9_RX10_X10_become kd_56 rfl (Nat.le_of_ble_eq_true rfl) (by decide) ⟨Nat.zero_le _, Nat.zero_le _⟩ rfl rfl ?_
  refine r_iconst hK d_X11_portsReached_13 ci_1 ?_
  refine r_istore_n hK d_X11_portsReached_14 rfl (by decide) (ls2 := [.ref 0, .int x1, .int (0 : Int32), .int (1 : Int32), gs_J]) rfl ?_
  exact TL_X11_portsReached_15 hK  _ _ _ _ _  hD
end S_X11_portsReached
theorem d_X11_worthiestOf_0 : gd cX11_worthiestOf 0 (.iconst (-1)) 1 1 := ⟨by decide +kernel, rfl⟩
theorem d_X11_worthiestOf_1 : gd cX11_worthiestOf 1 (.istore_n 2) 1 2 := ⟨by decide +kernel, rfl⟩
theorem d_X11_worthiestOf_2 : gd cX11_worthiestOf 2 (.iconst (-1)) 1 3 := ⟨by decide +kernel, rfl⟩
theorem d_X11_worthiestOf_3 : gd cX11_worthiestOf 3 (.istore_n 3) 1 4 := ⟨by decide +kernel, rfl⟩
theorem d_X11_worthiestOf_4 : gd cX11_worthiestOf 4 (.iconst 0) 1 5 := ⟨by decide +kernel, rfl⟩
theorem d_X11_worthiestOf_5 : gd cX11_worthiestOf 5 (.istore 4) 2 7 := ⟨by decide +kernel, rfl⟩
theorem d_X11_worthiestOf_7 : gd cX11_worthiestOf 7 (.iload 4) 2 9 := ⟨by decide +kernel, rfl⟩
theorem d_X11_worthiestOf_9 : gd cX11_worthiestOf 9 (.aload_n 0) 1 10 := ⟨by decide +kernel, rfl⟩
theorem d_X11_worthiestOf_10 : gd cX11_worthiestOf 10 (.getfield 86) 3 13 := ⟨by decide +kernel, rfl⟩
theorem d_X11_worthiestOf_13 : gd cX11_worthiestOf 13 (.getfield 293) 3 16 := ⟨by decide +kernel, rfl⟩
theorem d_X11_worthiestOf_16 : gd cX11_worthiestOf 16 (.if_icmp .ge 47) 3 19 := ⟨by decide +kernel, rfl⟩
theorem d_X11_worthiestOf_19 : gd cX11_worthiestOf 19 (.iload_n 1) 1 20 := ⟨by decide +kernel, rfl⟩
theorem d_X11_worthiestOf_20 : gd cX11_worthiestOf 20 (.iload 4) 2 22 := ⟨by decide +kernel, rfl⟩
theorem d_X11_worthiestOf_22 : gd cX11_worthiestOf 22 .ishr 1 23 := ⟨by decide +kernel, rfl⟩
theorem d_X11_worthiestOf_23 : gd cX11_worthiestOf 23 (.iconst 1) 1 24 := ⟨by decide +kernel, rfl⟩
theorem d_X11_worthiestOf_24 : gd cX11_worthiestOf 24 .iand 1 25 := ⟨by decide +kernel, rfl⟩
theorem d_X11_worthiestOf_25 : gd cX11_worthiestOf 25 (.iconst 1) 1 26 := ⟨by decide +kernel, rfl⟩
theorem d_X11_worthiestOf_26 : gd cX11_worthiestOf 26 (.if_icmp .ne 31) 3 29 := ⟨by decide +kernel, rfl⟩
theorem d_X11_worthiestOf_29 : gd cX11_worthiestOf 29 (.aload_n 0) 1 30 := ⟨by decide +kernel, rfl⟩
theorem d_X11_worthiestOf_30 : gd cX11_worthiestOf 30 (.getfield 86) 3 33 := ⟨by decide +kernel, rfl⟩
theorem d_X11_worthiestOf_33 : gd cX11_worthiestOf 33 (.getfield 297) 3 36 := ⟨by decide +kernel, rfl⟩
theorem d_X11_worthiestOf_36 : gd cX11_worthiestOf 36 (.iload 4) 2 38 := ⟨by decide +kernel, rfl⟩
theorem d_X11_worthiestOf_38 : gd cX11_worthiestOf 38 .iaload 1 39 := ⟨by decide +kernel, rfl⟩
theorem d_X11_worthiestOf_39 : gd cX11_worthiestOf 39 (.iload_n 3) 1 40 := ⟨by decide +kernel, rfl⟩
theorem d_X11_worthiestOf_40 : gd cX11_worthiestOf 40 (.if_icmp .le 17) 3 43 := ⟨by decide +kernel, rfl⟩
theorem d_X11_worthiestOf_43 : gd cX11_worthiestOf 43 (.iload 4) 2 45 := ⟨by decide +kernel, rfl⟩
theorem d_X11_worthiestOf_45 : gd cX11_worthiestOf 45 (.istore_n 2) 1 46 := ⟨by decide +kernel, rfl⟩
theorem d_X11_worthiestOf_46 : gd cX11_worthiestOf 46 (.aload_n 0) 1 47 := ⟨by decide +kernel, rfl⟩
theorem d_X11_worthiestOf_47 : gd cX11_worthiestOf 47 (.getfield 86) 3 50 := ⟨by decide +kernel, rfl⟩
theorem d_X11_worthiestOf_50 : gd cX11_worthiestOf 50 (.getfield 297) 3 53 := ⟨by decide +kernel, rfl⟩
theorem d_X11_worthiestOf_53 : gd cX11_worthiestOf 53 (.iload 4) 2 55 := ⟨by decide +kernel, rfl⟩
theorem d_X11_worthiestOf_55 : gd cX11_worthiestOf 55 .iaload 1 56 := ⟨by decide +kernel, rfl⟩
theorem d_X11_worthiestOf_56 : gd cX11_worthiestOf 56 (.istore_n 3) 1 57 := ⟨by decide +kernel, rfl⟩
theorem d_X11_worthiestOf_57 : gd cX11_worthiestOf 57 (.iinc 4 1) 3 60 := ⟨by decide +kernel, rfl⟩
theorem d_X11_worthiestOf_60 : gd cX11_worthiestOf 60 (.goto (-53)) 3 63 := ⟨by decide +kernel, rfl⟩
theorem d_X11_worthiestOf_63 : gd cX11_worthiestOf 63 (.iload_n 2) 1 64 := ⟨by decide +kernel, rfl⟩
theorem d_X11_worthiestOf_64 : gd cX11_worthiestOf 64 .ireturn 1 65 := ⟨by decide +kernel, rfl⟩
def Bo_X11_worthiestOf_7 (q7 : Int32 → Int32 → Int32 → Int32 → gs_M → Option (Int32 × gs_M)) (x1 : Int32) (x2 : Int32) (x3 : Int32) (x4 : Int32) (μ : gs_M) : Option (Int32 × gs_M) :=
  if (gI μ 69 2) ≤ x4 then (some (x2, μ)) else (if ((x1 >>> (x4 &&& 31)) &&& (1 : Int32)) = (1 : Int32) then (ck (inb x4 6) (if (gI μ (69 + 2) (Int32.toNatClampNeg x4)) ≤ x3 then (q7 x1 x2 x3 (x4 + (1 : Int32)) μ) else (ck (inb x4 6) (lt1 (gI μ (69 + 2) (Int32.toNatClampNeg x4)) (fun v6 => q7 x1 x4 v6 (x4 + (1 : Int32)) μ))))) else (q7 x1 x2 x3 (x4 + (1 : Int32)) μ))
def L_X11_worthiestOf_7  : Nat → Int32 → Int32 → Int32 → Int32 → gs_M → Option (Int32 × gs_M)
  | 0 => fun _ _ _ _ _ => none
  | n + 1 => fun x1 x2 x3 x4 μ => Bo_X11_worthiestOf_7  (L_X11_worthiestOf_7  n) x1 x2 x3 x4 μ
def D_X11_worthiestOf (x1 : Int32) (μ : gs_M) : Option (Int32 × gs_M) :=
  L_X11_worthiestOf_7 4096 x1 (-1 : Int32) (-1 : Int32) (0 : Int32) μ
section S_X11_worthiestOf
variable {p : Program} {l : Launch} {e : Env} {R : Room} {s : State} {m : MethodId} {args : Array Value} {below : List Frame} {meth : Method} {c : Code} {ad : Nat → Nat} {g : va_G} {tyc : Nat → ClassId}
set_option maxRecDepth 20000 in
theorem To_X11_worthiestOf_7  (hK : KC p R s m args meth c ad g tyc RX11 cX11_worthiestOf 5 (some .int) 0) {r : Int32} {μ2 : gs_M} {q7 : Int32 → Int32 → Int32 → Int32 → gs_M → Option (Int32 × gs_M)} (hq7 : ∀ (x1 : Int32) (x2 : Int32) (x3 : Int32) (x4 : Int32) (μ : gs_M), q7 x1 x2 x3 x4 μ = some (r, μ2) → WJ p l e R s m args below meth c 0 0 (MQ below (gs_Q ad g tyc (some (.int r)) μ2) args s 0 0 (gs_A ad)) ad g tyc 5 7 [.ref 0, .int x1, .int x2, .int x3, .int x4] [] μ) {x1 : Int32} {x2 : Int32} {x3 : Int32} {x4 : Int32} {μ : gs_M}  (hD : Bo_X11_worthiestOf_7 q7 x1 x2 x3 x4 μ = some (r, μ2)) : WJ p l e R s m args below meth c 0 0 (MQ below (gs_Q ad g tyc (some (.int r)) μ2) args s 0 0 (gs_A ad)) ad g tyc 5 7 [.ref 0, .int x1, .int x2, .int x3, .int x4] [] μ := by
  unfold Bo_X11_worthiestOf_7 at hD
  refine r_iload hK d_X11_worthiestOf_7 rfl ?_
  refine r_aload_n hK d_X11_worthiestOf_9 rfl rfl ?_
  refine r_getR hK d_X11_worthiestOf_10 fl_RX11_86_10 rfl kd_0 ?_
  refine r_ref (b := 69) R0_0_13 ?_
  refine r_getI hK d_X11_worthiestOf_13 fl_RX11_293_3 rfl kd_69 ?_
  refine r_icmp_ge (tgt := 63) hK d_X11_worthiestOf_16 (by decide) (fun h1 => ?_) (fun h1 => ?_)
  · have hD := if_t hD h1
    refine r_iload_n hK d_X11_worthiestOf_63 rfl rfl ?_
    cases hD
    exact r_iret hK d_X11_worthiestOf_64
  · have hD := if_f hD h1
    refine r_iload_n hK d_X11_worthiestOf_19 rfl rfl ?_
    refine r_iload hK d_X11_worthiestOf_20 rfl ?_
    refine r_ishr hK d_X11_worthiestOf_22 ?_
    refine r_iconst hK d_X11_worthiestOf_23 ci_1 ?_
    refine r_iand hK d_X11_worthiestOf_24 ?_
    refine r_iconst hK d_X11_worthiestOf_25 ci_1 ?_
    refine r_icmp_ne (tgt := 57) hK d_X11_worthiestOf_26 (by decide) (fun h2 => ?_) (fun h2 => ?_)
    · have hD := if_f hD h2
      refine r_iinc hK d_X11_worthiestOf_57 rfl (v := x4 + (1 : Int32)) (by rw [ci_1]) (by decide) (ls2 := [.ref 0, .int x1, .int x2, .int x3, .int (x4 + (1 : Int32))]) rfl ?_
      refine r_goto (tgt := 7) hK d_X11_worthiestOf_60 (by decide) ?_
      exact hq7 _ _ _ _ _  hD
    · have hD := if_t hD h2
      refine r_aload_n hK d_X11_worthiestOf_29 rfl rfl ?_
      refine r_getR hK d_X11_worthiestOf_30 fl_RX11_86_10 rfl kd_0 ?_
      refine r_ref (b := 69) R0_0_13 ?_
      refine r_getR hK d_X11_worthiestOf_33 fl_RX11_297_3 rfl kd_69 ?_
      refine r_ref (b := (69 + 2)) ((ly_pairs _ kd_69).2.1) ?_
      refine r_iload hK d_X11_worthiestOf_36 rfl ?_
      obtain ⟨h3, hD⟩ := ck_e hD
      refine r_iald hK d_X11_worthiestOf_38 ((ly_pairs _ kd_69).2.2.1) ((ly_pairs _ kd_69).2.2.2) (inb_in h3) ?_
      refine r_iload_n hK d_X11_worthiestOf_39 rfl rfl ?_
      refine r_icmp_le (tgt := 57) hK d_X11_worthiestOf_40 (by decide) (fun h4 => ?_) (fun h4 => ?_)
      · have hD := if_t hD h4
        refine r_iinc hK d_X11_worthiestOf_57 rfl (v := x4 + (1 : Int32)) (by rw [ci_1]) (by decide) (ls2 := [.ref 0, .int x1, .int x2, .int x3, .int (x4 + (1 : Int32))]) rfl ?_
        refine r_goto (tgt := 7) hK d_X11_worthiestOf_60 (by decide) ?_
        exact hq7 _ _ _ _ _  hD
      · have hD := if_f hD h4
        refine r_iload hK d_X11_worthiestOf_43 rfl ?_
        refine r_istore_n hK d_X11_worthiestOf_45 rfl (by decide) (ls2 := [.ref 0, .int x1, .int x4, .int x3, .int x4]) rfl ?_
        refine r_aload_n hK d_X11_worthiestOf_46 rfl rfl ?_
        refine r_getR hK d_X11_worthiestOf_47 fl_RX11_86_10 rfl kd_0 ?_
        refine r_ref (b := 69) R0_0_13 ?_
        refine r_getR hK d_X11_worthiestOf_50 fl_RX11_297_3 rfl kd_69 ?_
        refine r_ref (b := (69 + 2)) ((ly_pairs _ kd_69).2.1) ?_
        refine r_iload hK d_X11_worthiestOf_53 rfl ?_
        obtain ⟨h5, hD⟩ := ck_e hD
        refine r_iald hK d_X11_worthiestOf_55 ((ly_pairs _ kd_69).2.2.1) ((ly_pairs _ kd_69).2.2.2) (inb_in h5) ?_
        refine r_lti hD (fun v6 hD => ?_)
        refine r_istore_n hK d_X11_worthiestOf_56 rfl (by decide) (ls2 := [.ref 0, .int x1, .int x4, .int v6, .int x4]) rfl ?_
        refine r_iinc hK d_X11_worthiestOf_57 rfl (v := x4 + (1 : Int32)) (by rw [ci_1]) (by decide) (ls2 := [.ref 0, .int x1, .int x4, .int v6, .int (x4 + (1 : Int32))]) rfl ?_
        refine r_goto (tgt := 7) hK d_X11_worthiestOf_60 (by decide) ?_
        exact hq7 _ _ _ _ _  hD
set_option maxRecDepth 20000 in
theorem TL_X11_worthiestOf_7  (hK : KC p R s m args meth c ad g tyc RX11 cX11_worthiestOf 5 (some .int) 0) {r : Int32} {μ2 : gs_M}   : ∀ (n : Nat) (x1 : Int32) (x2 : Int32) (x3 : Int32) (x4 : Int32) (μ : gs_M), L_X11_worthiestOf_7  n x1 x2 x3 x4 μ = some (r, μ2) → WJ p l e R s m args below meth c 0 0 (MQ below (gs_Q ad g tyc (some (.int r)) μ2) args s 0 0 (gs_A ad)) ad g tyc 5 7 [.ref 0, .int x1, .int x2, .int x3, .int x4] [] μ := by
  intro n
  induction n with
  | zero => intro x1 x2 x3 x4 μ  hD; cases hD
  | succ n ih => intro x1 x2 x3 x4 μ  hD; exact To_X11_worthiestOf_7 hK  ih  hD
set_option maxRecDepth 20000 in
theorem C_X11_worthiestOf  {x1 : Int32} {μ : gs_M} {r : Int32} {μ2 : gs_M}  (hD : D_X11_worthiestOf x1 μ = some (r, μ2)) : CALL yX11_worthiestOf cX11_worthiestOf 5 (some .int) 0 [.ref 0, .int x1] μ (some (.int r)) μ2 := by
  unfold D_X11_worthiestOf at hD
  refine gs_enter mf_X11_worthiestOf (Nat.le_of_ble_eq_true rfl) (ls := [.ref 0, .int x1, gs_J, gs_J, gs_J]) rfl (fun p l e R s m args below meth c ad g tyc hK => ?_)
  have hK : KC p R s m args meth c ad g tyc RX11 cX11_worthiestOf 5 (some .int) 0 := hK
  refine r_iconst hK d_X11_worthiestOf_0 ci_m1 ?_
  refine r_istore_n hK d_X11_worthiestOf_1 rfl (by decide) (ls2 := [.ref 0, .int x1, .int (-1 : Int32), gs_J, gs_J]) rfl ?_
  refine r_iconst hK d_X11_worthiestOf_2 ci_m1 ?_
  refine r_istore_n hK d_X11_worthiestOf_3 rfl (by decide) (ls2 := [.ref 0, .int x1, .int (-1 : Int32), .int (-1 : Int32), gs_J]) rfl ?_
  refine r_iconst hK d_X11_worthiestOf_4 ci_0 ?_
  refine r_istore hK d_X11_worthiestOf_5 (by decide) (ls2 := [.ref 0, .int x1, .int (-1 : Int32), .int (-1 : Int32), .int (0 : Int32)]) rfl ?_
  exact TL_X11_worthiestOf_7 hK  _ _ _ _ _ _  hD
end S_X11_worthiestOf
theorem d_X11_reach_0 : gd cX11_reach 0 (.aload_n 0) 1 1 := ⟨by decide +kernel, rfl⟩
theorem d_X11_reach_1 : gd cX11_reach 1 (.invokevirtual 206) 3 4 := ⟨by decide +kernel, rfl⟩
theorem d_X11_reach_4 : gd cX11_reach 4 (.ifCond .eq 22) 3 7 := ⟨by decide +kernel, rfl⟩
theorem d_X11_reach_7 : gd cX11_reach 7 (.iload_n 1) 1 8 := ⟨by decide +kernel, rfl⟩
theorem d_X11_reach_8 : gd cX11_reach 8 (.iconst 0) 1 9 := ⟨by decide +kernel, rfl⟩
theorem d_X11_reach_9 : gd cX11_reach 9 (.bipush 30) 2 11 := ⟨by decide +kernel, rfl⟩
theorem d_X11_reach_11 : gd cX11_reach 11 (.invokestatic 123) 3 14 := ⟨by decide +kernel, rfl⟩
theorem d_X11_reach_14 : gd cX11_reach 14 (.ifCond .eq 12) 3 17 := ⟨by decide +kernel, rfl⟩
theorem d_X11_reach_17 : gd cX11_reach 17 (.iload_n 2) 1 18 := ⟨by decide +kernel, rfl⟩
theorem d_X11_reach_18 : gd cX11_reach 18 (.iconst 0) 1 19 := ⟨by decide +kernel, rfl⟩
theorem d_X11_reach_19 : gd cX11_reach 19 (.iconst 1) 1 20 := ⟨by decide +kernel, rfl⟩
theorem d_X11_reach_20 : gd cX11_reach 20 (.invokestatic 123) 3 23 := ⟨by decide +kernel, rfl⟩
theorem d_X11_reach_23 : gd cX11_reach 23 (.ifCond .ne 6) 3 26 := ⟨by decide +kernel, rfl⟩
theorem d_X11_reach_26 : gd cX11_reach 26 (.ldc 231) 2 28 := ⟨by decide +kernel, rfl⟩
theorem d_X11_reach_28 : gd cX11_reach 28 .ireturn 1 29 := ⟨by decide +kernel, rfl⟩
theorem d_X11_reach_29 : gd cX11_reach 29 (.aload_n 0) 1 30 := ⟨by decide +kernel, rfl⟩
theorem d_X11_reach_30 : gd cX11_reach 30 (.iload_n 1) 1 31 := ⟨by decide +kernel, rfl⟩
theorem d_X11_reach_31 : gd cX11_reach 31 (.invokevirtual 358) 3 34 := ⟨by decide +kernel, rfl⟩
theorem d_X11_reach_34 : gd cX11_reach 34 (.istore_n 3) 1 35 := ⟨by decide +kernel, rfl⟩
theorem d_X11_reach_35 : gd cX11_reach 35 (.iload_n 2) 1 36 := ⟨by decide +kernel, rfl⟩
theorem d_X11_reach_36 : gd cX11_reach 36 (.ifCond .ne 7) 3 39 := ⟨by decide +kernel, rfl⟩
theorem d_X11_reach_39 : gd cX11_reach 39 (.iload_n 3) 1 40 := ⟨by decide +kernel, rfl⟩
theorem d_X11_reach_40 : gd cX11_reach 40 (.goto 8) 3 43 := ⟨by decide +kernel, rfl⟩
theorem d_X11_reach_43 : gd cX11_reach 43 (.aload_n 0) 1 44 := ⟨by decide +kernel, rfl⟩
theorem d_X11_reach_44 : gd cX11_reach 44 (.iload_n 3) 1 45 := ⟨by decide +kernel, rfl⟩
theorem d_X11_reach_45 : gd cX11_reach 45 (.invokevirtual 361) 3 48 := ⟨by decide +kernel, rfl⟩
theorem d_X11_reach_48 : gd cX11_reach 48 .ireturn 1 49 := ⟨by decide +kernel, rfl⟩
def D_X11_reach (x1 : Int32) (x2 : Int32) (μ : gs_M) : Option (Int32 × gs_M) :=
  bd (D_X11_isReady μ) (fun v3 u2 => if v3 = 0 then (some ((-1000000 : Int32), u2)) else (bd (D_X11_within x1 (0 : Int32) (30 : Int32) u2) (fun v7 u6 => if v7 = 0 then (some ((-1000000 : Int32), u6)) else (bd (D_X11_within x2 (0 : Int32) (1 : Int32) u6) (fun v11 u10 => if v11 = 0 then (some ((-1000000 : Int32), u10)) else (bd (D_X11_portsReached x1 u10) (fun v15 u14 => if x2 = 0 then (some (v15, u14)) else (bd (D_X11_worthiestOf v15 u14) (fun v19 u18 => some (v19, u18))))))))))
section S_X11_reach
variable {p : Program} {l : Launch} {e : Env} {R : Room} {s : State} {m : MethodId} {args : Array Value} {below : List Frame} {meth : Method} {c : Code} {ad : Nat → Nat} {g : va_G} {tyc : Nat → ClassId}
set_option maxRecDepth 20000 in
theorem C_X11_reach  {x1 : Int32} {x2 : Int32} {μ : gs_M} {r : Int32} {μ2 : gs_M}  (hD : D_X11_reach x1 x2 μ = some (r, μ2)) : CALL yX11_reach cX11_reach 4 (some .int) 7 [.ref 0, .int x1, .int x2] μ (some (.int r)) μ2 := by
  unfold D_X11_reach at hD
  refine gs_enter mf_X11_reach (Nat.le_of_ble_eq_true rfl) (ls := [.ref 0, .int x1, .int x2, gs_J]) rfl (fun p l e R s m args below meth c ad g tyc hK => ?_)
  have hK : KC p R s m args meth c ad g tyc RX11 cX11_reach 4 (some .int) 7 := hK
  refine r_aload_n hK d_X11_reach_0 rfl rfl ?_
  obtain ⟨v3, u2, e1, hD⟩ := bd_e hD
  refine r_callV (As := []) (st := []) (stk2 := [.int v3]) hK (C_X11_isReady  e1) d_X11_reach_1 mf_X11_isReady ml_RX11_206 im_X11_isReady rfl se_10_RX11_X11_isReady kd_0 rfl (Nat.le_of_ble_eq_true rfl) (by decide) ⟨Nat.zero_le _, Nat.zero_le _⟩ rfl rfl ?_
  refine r_if_eq (tgt := 26) hK d_X11_reach_4 (by decide) (fun h4 => ?_) (fun h4 => ?_)
  · have hD := if_t hD h4
    refine r_ldc hK d_X11_reach_26 kc_RX11_231 ?_
    cases hD
    exact r_iret hK d_X11_reach_28
  · have hD := if_f hD h4
    refine r_iload_n hK d_X11_reach_7 rfl rfl ?_
    refine r_iconst hK d_X11_reach_8 ci_0 ?_
    refine r_bipush hK d_X11_reach_9 cb_30 ?_
    obtain ⟨v7, u6, e5, hD⟩ := bd_e hD
    refine r_callS (As := [.int x1, .int (0 : Int32), .int (30 : Int32)]) (st := []) (stk2 := [.int v7]) hK (C_X11_within  e5) d_X11_reach_11 mf_X11_within ml_RX11_123 ss_X11_within rfl (Nat.le_of_ble_eq_true rfl) (by decide) ⟨Nat.zero_le _, Nat.zero_le _⟩ rfl rfl ?_
    refine r_if_eq (tgt := 26) hK d_X11_reach_14 (by decide) (fun h8 => ?_) (fun h8 => ?_)
    · have hD := if_t hD h8
      refine r_ldc hK d_X11_reach_26 kc_RX11_231 ?_
      cases hD
      exact r_iret hK d_X11_reach_28
    · have hD := if_f hD h8
      refine r_iload_n hK d_X11_reach_17 rfl rfl ?_
      refine r_iconst hK d_X11_reach_18 ci_0 ?_
      refine r_iconst hK d_X11_reach_19 ci_1 ?_
      obtain ⟨v11, u10, e9, hD⟩ := bd_e hD
      refine r_callS (As := [.int x2, .int (0 : Int32), .int (1 : Int32)]) (st := []) (stk2 := [.int v11]) hK (C_X11_within  e9) d_X11_reach_20 mf_X11_within ml_RX11_123 ss_X11_within rfl (Nat.le_of_ble_eq_true rfl) (by decide) ⟨Nat.zero_le _, Nat.zero_le _⟩ rfl rfl ?_
      refine r_if_ne (tgt := 29) hK d_X11_reach_23 (by decide) (fun h12 => ?_) (fun h12 => ?_)
      · have hD := if_f hD h12
        refine r_aload_n hK d_X11_reach_29 rfl rfl ?_
        refine r_iload_n hK d_X11_reach_30 rfl rfl ?_
        obtain ⟨v15, u14, e13, hD⟩ := bd_e hD
        refine r_callV (As := [.int x1]) (st := []) (stk2 := [.int v15]) hK (C_X11_portsReached  e13) d_X11_reach_31 mf_X11_portsReached ml_RX11_358 im_X11_portsReached rfl se_10_RX11_X11_portsReached kd_0 rfl (Nat.le_of_ble_eq_true rfl) (by decide) ⟨Nat.zero_le _, Nat.zero_le _⟩ rfl rfl ?_
        refine r_istore_n hK d_X11_reach_34 rfl (by decide) (ls2 := [.ref 0, .int x1, .int x2, .int v15]) rfl ?_
        refine r_iload_n hK d_X11_reach_35 rfl rfl ?_
        refine r_if_ne (tgt := 43) hK d_X11_reach_36 (by decide) (fun h16 => ?_) (fun h16 => ?_)
        · have hD := if_f hD h16
          refine r_aload_n hK d_X11_reach_43 rfl rfl ?_
          refine r_iload_n hK d_X11_reach_44 rfl rfl ?_
          obtain ⟨v19, u18, e17, hD⟩ := bd_e hD
          refine r_callV (As := [.int v15]) (st := []) (stk2 := [.int v19]) hK (C_X11_worthiestOf  e17) d_X11_reach_45 mf_X11_worthiestOf ml_RX11_361 im_X11_worthiestOf rfl se_10_RX11_X11_worthiestOf kd_0 rfl (Nat.le_of_ble_eq_true rfl) (by decide) ⟨Nat.zero_le _, Nat.zero_le _⟩ rfl rfl ?_
          cases hD
          exact r_iret hK d_X11_reach_48
        · have hD := if_t hD h16
          refine r_iload_n hK d_X11_reach_39 rfl rfl ?_
          refine r_goto (tgt := 48) hK d_X11_reach_40 (by decide) ?_
          cases hD
          exact r_iret hK d_X11_reach_48
      · have hD := if_t hD h12
        refine r_ldc hK d_X11_reach_26 kc_RX11_231 ?_
        cases hD
        exact r_iret hK d_X11_reach_28
end S_X11_reach
theorem d_X11_over_0 : gd cX11_over 0 (.aload_n 0) 1 1 := ⟨by decide +kernel, rfl⟩
theorem d_X11_over_1 : gd cX11_over 1 (.invokevirtual 206) 3 4 := ⟨by decide +kernel, rfl⟩
theorem d_X11_over_4 : gd cX11_over 4 (.ifCond .eq 43) 3 7 := ⟨by decide +kernel, rfl⟩
theorem d_X11_over_7 : gd cX11_over 7 (.iload_n 1) 1 8 := ⟨by decide +kernel, rfl⟩
theorem d_X11_over_8 : gd cX11_over 8 (.iconst 0) 1 9 := ⟨by decide +kernel, rfl⟩
theorem d_X11_over_9 : gd cX11_over 9 (.bipush 30) 2 11 := ⟨by decide +kernel, rfl⟩
theorem d_X11_over_11 : gd cX11_over 11 (.invokestatic 123) 3 14 := ⟨by decide +kernel, rfl⟩
theorem d_X11_over_14 : gd cX11_over 14 (.ifCond .eq 33) 3 17 := ⟨by decide +kernel, rfl⟩
theorem d_X11_over_17 : gd cX11_over 17 (.iload_n 2) 1 18 := ⟨by decide +kernel, rfl⟩
theorem d_X11_over_18 : gd cX11_over 18 (.iconst 1) 1 19 := ⟨by decide +kernel, rfl⟩
theorem d_X11_over_19 : gd cX11_over 19 (.bipush 9) 2 21 := ⟨by decide +kernel, rfl⟩
theorem d_X11_over_21 : gd cX11_over 21 (.invokestatic 123) 3 24 := ⟨by decide +kernel, rfl⟩
theorem d_X11_over_24 : gd cX11_over 24 (.ifCond .eq 23) 3 27 := ⟨by decide +kernel, rfl⟩
theorem d_X11_over_27 : gd cX11_over 27 (.iload_n 3) 1 28 := ⟨by decide +kernel, rfl⟩
theorem d_X11_over_28 : gd cX11_over 28 (.iconst 1) 1 29 := ⟨by decide +kernel, rfl⟩
theorem d_X11_over_29 : gd cX11_over 29 (.bipush 20) 2 31 := ⟨by decide +kernel, rfl⟩
theorem d_X11_over_31 : gd cX11_over 31 (.invokestatic 123) 3 34 := ⟨by decide +kernel, rfl⟩
theorem d_X11_over_34 : gd cX11_over 34 (.ifCond .eq 13) 3 37 := ⟨by decide +kernel, rfl⟩
theorem d_X11_over_37 : gd cX11_over 37 (.iload 4) 2 39 := ⟨by decide +kernel, rfl⟩
theorem d_X11_over_39 : gd cX11_over 39 (.iconst 0) 1 40 := ⟨by decide +kernel, rfl⟩
theorem d_X11_over_40 : gd cX11_over 40 (.iconst 2) 1 41 := ⟨by decide +kernel, rfl⟩
theorem d_X11_over_41 : gd cX11_over 41 (.invokestatic 123) 3 44 := ⟨by decide +kernel, rfl⟩
theorem d_X11_over_44 : gd cX11_over 44 (.ifCond .ne 6) 3 47 := ⟨by decide +kernel, rfl⟩
theorem d_X11_over_47 : gd cX11_over 47 (.ldc 231) 2 49 := ⟨by decide +kernel, rfl⟩
theorem d_X11_over_49 : gd cX11_over 49 .ireturn 1 50 := ⟨by decide +kernel, rfl⟩
theorem d_X11_over_50 : gd cX11_over 50 (.iconst 0) 1 51 := ⟨by decide +kernel, rfl⟩
theorem d_X11_over_51 : gd cX11_over 51 (.istore 5) 2 53 := ⟨by decide +kernel, rfl⟩
theorem d_X11_over_53 : gd cX11_over 53 (.iconst 0) 1 54 := ⟨by decide +kernel, rfl⟩
theorem d_X11_over_54 : gd cX11_over 54 (.istore 6) 2 56 := ⟨by decide +kernel, rfl⟩
theorem d_X11_over_56 : gd cX11_over 56 (.iconst 0) 1 57 := ⟨by decide +kernel, rfl⟩
theorem d_X11_over_57 : gd cX11_over 57 (.istore 7) 2 59 := ⟨by decide +kernel, rfl⟩
theorem d_X11_over_59 : gd cX11_over 59 (.iconst 0) 1 60 := ⟨by decide +kernel, rfl⟩
theorem d_X11_over_60 : gd cX11_over 60 (.istore 8) 2 62 := ⟨by decide +kernel, rfl⟩
theorem d_X11_over_62 : gd cX11_over 62 (.iload 8) 2 64 := ⟨by decide +kernel, rfl⟩
theorem d_X11_over_64 : gd cX11_over 64 (.iload_n 3) 1 65 := ⟨by decide +kernel, rfl⟩
theorem d_X11_over_65 : gd cX11_over 65 (.if_icmp .ge 87) 3 68 := ⟨by decide +kernel, rfl⟩
theorem d_X11_over_68 : gd cX11_over 68 (.aload_n 0) 1 69 := ⟨by decide +kernel, rfl⟩
theorem d_X11_over_69 : gd cX11_over 69 (.getfield 76) 3 72 := ⟨by decide +kernel, rfl⟩
theorem d_X11_over_72 : gd cX11_over 72 (.aload_n 0) 1 73 := ⟨by decide +kernel, rfl⟩
theorem d_X11_over_73 : gd cX11_over 73 (.getfield 66) 3 76 := ⟨by decide +kernel, rfl⟩
theorem d_X11_over_76 : gd cX11_over 76 (.invokevirtual 278) 3 79 := ⟨by decide +kernel, rfl⟩
theorem d_X11_over_79 : gd cX11_over 79 (.aload_n 0) 1 80 := ⟨by decide +kernel, rfl⟩
theorem d_X11_over_80 : gd cX11_over 80 (.getfield 76) 3 83 := ⟨by decide +kernel, rfl⟩
theorem d_X11_over_83 : gd cX11_over 83 (.iload 8) 2 85 := ⟨by decide +kernel, rfl⟩
theorem d_X11_over_85 : gd cX11_over 85 .i2l 1 86 := ⟨by decide +kernel, rfl⟩
theorem d_X11_over_86 : gd cX11_over 86 (.putfield 174) 3 89 := ⟨by decide +kernel, rfl⟩
theorem d_X11_over_89 : gd cX11_over 89 (.aload_n 0) 1 90 := ⟨by decide +kernel, rfl⟩
theorem d_X11_over_90 : gd cX11_over 90 (.getfield 76) 3 93 := ⟨by decide +kernel, rfl⟩
theorem d_X11_over_93 : gd cX11_over 93 (.iload_n 1) 1 94 := ⟨by decide +kernel, rfl⟩
theorem d_X11_over_94 : gd cX11_over 94 (.iload_n 2) 1 95 := ⟨by decide +kernel, rfl⟩
theorem d_X11_over_95 : gd cX11_over 95 (.invokevirtual 213) 3 98 := ⟨by decide +kernel, rfl⟩
theorem d_X11_over_98 : gd cX11_over 98 (.aload_n 0) 1 99 := ⟨by decide +kernel, rfl⟩
theorem d_X11_over_99 : gd cX11_over 99 (.getfield 76) 3 102 := ⟨by decide +kernel, rfl⟩
theorem d_X11_over_102 : gd cX11_over 102 (.invokevirtual 256) 3 105 := ⟨by decide +kernel, rfl⟩
theorem d_X11_over_105 : gd cX11_over 105 (.istore 9) 2 107 := ⟨by decide +kernel, rfl⟩
theorem d_X11_over_107 : gd cX11_over 107 (.iload 5) 2 109 := ⟨by decide +kernel, rfl⟩
theorem d_X11_over_109 : gd cX11_over 109 (.aload_n 0) 1 110 := ⟨by decide +kernel, rfl⟩
theorem d_X11_over_110 : gd cX11_over 110 (.getfield 76) 3 113 := ⟨by decide +kernel, rfl⟩
theorem d_X11_over_113 : gd cX11_over 113 (.getfield 262) 3 116 := ⟨by decide +kernel, rfl⟩
theorem d_X11_over_116 : gd cX11_over 116 (.ifCond .eq 7) 3 119 := ⟨by decide +kernel, rfl⟩
theorem d_X11_over_119 : gd cX11_over 119 (.iconst 1) 1 120 := ⟨by decide +kernel, rfl⟩
theorem d_X11_over_120 : gd cX11_over 120 (.goto 4) 3 123 := ⟨by decide +kernel, rfl⟩
theorem d_X11_over_123 : gd cX11_over 123 (.iconst 0) 1 124 := ⟨by decide +kernel, rfl⟩
theorem d_X11_over_124 : gd cX11_over 124 .iadd 1 125 := ⟨by decide +kernel, rfl⟩
theorem d_X11_over_125 : gd cX11_over 125 (.istore 5) 2 127 := ⟨by decide +kernel, rfl⟩
theorem d_X11_over_127 : gd cX11_over 127 (.iload 6) 2 129 := ⟨by decide +kernel, rfl⟩
theorem d_X11_over_129 : gd cX11_over 129 (.iload 9) 2 131 := ⟨by decide +kernel, rfl⟩
theorem d_X11_over_131 : gd cX11_over 131 .iadd 1 132 := ⟨by decide +kernel, rfl⟩
theorem d_X11_over_132 : gd cX11_over 132 (.istore 6) 2 134 := ⟨by decide +kernel, rfl⟩
theorem d_X11_over_134 : gd cX11_over 134 (.iload 7) 2 136 := ⟨by decide +kernel, rfl⟩
theorem d_X11_over_136 : gd cX11_over 136 (.iload 9) 2 138 := ⟨by decide +kernel, rfl⟩
theorem d_X11_over_138 : gd cX11_over 138 (.invokestatic 286) 3 141 := ⟨by decide +kernel, rfl⟩
theorem d_X11_over_141 : gd cX11_over 141 (.invokestatic 364) 3 144 := ⟨by decide +kernel, rfl⟩
theorem d_X11_over_144 : gd cX11_over 144 (.istore 7) 2 146 := ⟨by decide +kernel, rfl⟩
theorem d_X11_over_146 : gd cX11_over 146 (.iinc 8 1) 3 149 := ⟨by decide +kernel, rfl⟩
theorem d_X11_over_149 : gd cX11_over 149 (.goto (-87)) 3 152 := ⟨by decide +kernel, rfl⟩
theorem d_X11_over_152 : gd cX11_over 152 (.iload 4) 2 154 := ⟨by decide +kernel, rfl⟩
theorem d_X11_over_154 : gd cX11_over 154 (.ifCond .ne 8) 3 157 := ⟨by decide +kernel, rfl⟩
theorem d_X11_over_157 : gd cX11_over 157 (.iload 5) 2 159 := ⟨by decide +kernel, rfl⟩
theorem d_X11_over_159 : gd cX11_over 159 (.goto 16) 3 162 := ⟨by decide +kernel, rfl⟩
theorem d_X11_over_162 : gd cX11_over 162 (.iload 4) 2 164 := ⟨by decide +kernel, rfl⟩
theorem d_X11_over_164 : gd cX11_over 164 (.iconst 1) 1 165 := ⟨by decide +kernel, rfl⟩
theorem d_X11_over_165 : gd cX11_over 165 (.if_icmp .ne 8) 3 168 := ⟨by decide +kernel, rfl⟩
theorem d_X11_over_168 : gd cX11_over 168 (.iload 6) 2 170 := ⟨by decide +kernel, rfl⟩
theorem d_X11_over_170 : gd cX11_over 170 (.goto 5) 3 173 := ⟨by decide +kernel, rfl⟩
theorem d_X11_over_173 : gd cX11_over 173 (.iload 7) 2 175 := ⟨by decide +kernel, rfl⟩
theorem d_X11_over_175 : gd cX11_over 175 .ireturn 1 176 := ⟨by decide +kernel, rfl⟩
def B_X11_over_124 (q62 : Int32 → Int32 → Int32 → Int32 → Int32 → Int32 → Int32 → Int32 → gs_M → Option (Int32 × gs_M)) (x1 : Int32) (x2 : Int32) (x3 : Int32) (x4 : Int32) (x6 : Int32) (x7 : Int32) (x8 : Int32) (x9 : Int32) (xs0 : Int32) (xs1 : Int32) (μ : gs_M) : Option (Int32 × gs_M) :=
  lt1 (xs0 + xs1) (fun v1 => lt1 (x6 + x9) (fun v2 => lt1 (if 0 ≤ x9 then x9 else 0 - x9) (fun v3 => lt1 (if x7 < v3 then v3 else x7) (fun v4 => q62 x1 x2 x3 x4 v1 v2 v4 (x8 + (1 : Int32)) μ))))
def Bo_X11_over_62 (q62 : Int32 → Int32 → Int32 → Int32 → Int32 → Int32 → Int32 → Int32 → gs_M → Option (Int32 × gs_M)) (x1 : Int32) (x2 : Int32) (x3 : Int32) (x4 : Int32) (x5 : Int32) (x6 : Int32) (x7 : Int32) (x8 : Int32) (μ : gs_M) : Option (Int32 × gs_M) :=
  if x3 ≤ x8 then (if x4 = 0 then (some (x5, μ)) else (if x4 = (1 : Int32) then (some (x6, μ)) else (some (x7, μ)))) else (bd0 (D_X10_become 56 26 μ) (fun u5 => lt1 (sL u5 56 5 (Int32.toInt64 x8)) (fun u6 => bd0 (D_X10_sail 56 x1 x2 u6) (fun u8 => bd (D_X10_lean 56 u8) (fun v11 u10 => if (gI u10 56 4) = 0 then (B_X11_over_124 q62 x1 x2 x3 x4 x6 x7 x8 v11 x5 (0 : Int32) u10) else (B_X11_over_124 q62 x1 x2 x3 x4 x6 x7 x8 v11 x5 (1 : Int32) u10))))))
def L_X11_over_62  : Nat → Int32 → Int32 → Int32 → Int32 → Int32 → Int32 → Int32 → Int32 → gs_M → Option (Int32 × gs_M)
  | 0 => fun _ _ _ _ _ _ _ _ _ => none
  | n + 1 => fun x1 x2 x3 x4 x5 x6 x7 x8 μ => Bo_X11_over_62  (L_X11_over_62  n) x1 x2 x3 x4 x5 x6 x7 x8 μ
def D_X11_over (x1 : Int32) (x2 : Int32) (x3 : Int32) (x4 : Int32) (μ : gs_M) : Option (Int32 × gs_M) :=
  bd (D_X11_isReady μ) (fun v3 u2 => if v3 = 0 then (some ((-1000000 : Int32), u2)) else (bd (D_X11_within x1 (0 : Int32) (30 : Int32) u2) (fun v7 u6 => if v7 = 0 then (some ((-1000000 : Int32), u6)) else (bd (D_X11_within x2 (1 : Int32) (9 : Int32) u6) (fun v11 u10 => if v11 = 0 then (some ((-1000000 : Int32), u10)) else (bd (D_X11_within x3 (1 : Int32) (20 : Int32) u10) (fun v15 u14 => if v15 = 0 then (some ((-1000000 : Int32), u14)) else (bd (D_X11_within x4 (0 : Int32) (2 : Int32) u14) (fun v19 u18 => if v19 = 0 then (some ((-1000000 : Int32), u18)) else (L_X11_over_62 4096 x1 x2 x3 x4 (0 : Int32) (0 : Int32) (0 : Int32) (0 : Int32) u18))))))))))
section S_X11_over
variable {p : Program} {l : Launch} {e : Env} {R : Room} {s : State} {m : MethodId} {args : Array Value} {below : List Frame} {meth : Method} {c : Code} {ad : Nat → Nat} {g : va_G} {tyc : Nat → ClassId}
set_option maxRecDepth 20000 in
theorem T_X11_over_124  (hK : KC p R s m args meth c ad g tyc RX11 cX11_over 10 (some .int) 6) {r : Int32} {μ2 : gs_M} {q62 : Int32 → Int32 → Int32 → Int32 → Int32 → Int32 → Int32 → Int32 → gs_M → Option (Int32 × gs_M)} (hq62 : ∀ (x1 : Int32) (x2 : Int32) (x3 : Int32) (x4 : Int32) (x5 : Int32) (x6 : Int32) (x7 : Int32) (x8 : Int32) (μ : gs_M), q62 x1 x2 x3 x4 x5 x6 x7 x8 μ = some (r, μ2) → WJ p l e R s m args below meth c 0 0 (MQ below (gs_Q ad g tyc (some (.int r)) μ2) args s 0 0 (gs_A ad)) ad g tyc 10 62 [.ref 0, .int x1, .int x2, .int x3, .int x4, .int x5, .int x6, .int x7, .int x8, gs_J] [] μ) {x1 : Int32} {x2 : Int32} {x3 : Int32} {x4 : Int32} {x6 : Int32} {x7 : Int32} {x8 : Int32} {x9 : Int32} {xs0 : Int32} {xs1 : Int32} {μ : gs_M}  (hD : B_X11_over_124 q62 x1 x2 x3 x4 x6 x7 x8 x9 xs0 xs1 μ = some (r, μ2)) : WJ p l e R s m args below meth c 0 0 (MQ below (gs_Q ad g tyc (some (.int r)) μ2) args s 0 0 (gs_A ad)) ad g tyc 10 124 [.ref 0, .int x1, .int x2, .int x3, .int x4, gs_J, .int x6, .int x7, .int x8, .int x9] [.int xs1, .int xs0] μ := by
  unfold B_X11_over_124 at hD
  refine r_iadd hK d_X11_over_124 ?_
  refine r_lti hD (fun v1 hD => ?_)
  refine r_istore hK d_X11_over_125 (by decide) (ls2 := [.ref 0, .int x1, .int x2, .int x3, .int x4, .int v1, .int x6, .int x7, .int x8, .int x9]) rfl ?_
  refine r_iload hK d_X11_over_127 rfl ?_
  refine r_iload hK d_X11_over_129 rfl ?_
  refine r_iadd hK d_X11_over_131 ?_
  refine r_lti hD (fun v2 hD => ?_)
  refine r_istore hK d_X11_over_132 (by decide) (ls2 := [.ref 0, .int x1, .int x2, .int x3, .int x4, .int v1, .int v2, .int x7, .int x8, .int x9]) rfl ?_
  refine r_iload hK d_X11_over_134 rfl ?_
  refine r_iload hK d_X11_over_136 rfl ?_
  refine r_mabs hK d_X11_over_138 mm_RX11_286 ms_abs mi_0 mc_abs (Nat.le_of_ble_eq_true rfl) (by decide) ⟨Nat.zero_le _, Nat.zero_le _⟩ ?_
  refine r_lti hD (fun v3 hD => ?_)
  refine r_mmax hK d_X11_over_141 mm_RX11_364 ms_max mi_0 mc_max (Nat.le_of_ble_eq_true rfl) (by decide) ⟨Nat.zero_le _, Nat.zero_le _⟩ ?_
  refine r_lti hD (fun v4 hD => ?_)
  refine r_istore hK d_X11_over_144 (by decide) (ls2 := [.ref 0, .int x1, .int x2, .int x3, .int x4, .int v1, .int v2, .int v4, .int x8, .int x9]) rfl ?_
  refine r_iinc hK d_X11_over_146 rfl (v := x8 + (1 : Int32)) (by rw [ci_1]) (by decide) (ls2 := [.ref 0, .int x1, .int x2, .int x3, .int x4, .int v1, .int v2, .int v4, .int (x8 + (1 : Int32)), .int x9]) rfl ?_
  refine r_goto (tgt := 62) hK d_X11_over_149 (by decide) ?_
  refine r_junk [true, true, true, true, true, true, true, true, true, false] (ls2 := [.ref 0, .int x1, .int x2, .int x3, .int x4, .int v1, .int v2, .int v4, .int (x8 + (1 : Int32)), gs_J]) rfl ?_
  exact hq62 _ _ _ _ _ _ _ _ _  hD
set_option maxRecDepth 20000 in
theorem To_X11_over_62  (hK : KC p R s m args meth c ad g tyc RX11 cX11_over 10 (some .int) 6) {r : Int32} {μ2 : gs_M} {q62 : Int32 → Int32 → Int32 → Int32 → Int32 → Int32 → Int32 → Int32 → gs_M → Option (Int32 × gs_M)} (hq62 : ∀ (x1 : Int32) (x2 : Int32) (x3 : Int32) (x4 : Int32) (x5 : Int32) (x6 : Int32) (x7 : Int32) (x8 : Int32) (μ : gs_M), q62 x1 x2 x3 x4 x5 x6 x7 x8 μ = some (r, μ2) → WJ p l e R s m args below meth c 0 0 (MQ below (gs_Q ad g tyc (some (.int r)) μ2) args s 0 0 (gs_A ad)) ad g tyc 10 62 [.ref 0, .int x1, .int x2, .int x3, .int x4, .int x5, .int x6, .int x7, .int x8, gs_J] [] μ) {x1 : Int32} {x2 : Int32} {x3 : Int32} {x4 : Int32} {x5 : Int32} {x6 : Int32} {x7 : Int32} {x8 : Int32} {μ : gs_M}  (hD : Bo_X11_over_62 q62 x1 x2 x3 x4 x5 x6 x7 x8 μ = some (r, μ2)) : WJ p l e R s m args below meth c 0 0 (MQ below (gs_Q ad g tyc (some (.int r)) μ2) args s 0 0 (gs_A ad)) ad g tyc 10 62 [.ref 0, .int x1, .int x2, .int x3, .int x4, .int x5, .int x6, .int x7, .int x8, gs_J] [] μ := by
  unfold Bo_X11_over_62 at hD
  refine r_iload hK d_X11_over_62 rfl ?_
  refine r_iload_n hK d_X11_over_64 rfl rfl ?_
  refine r_icmp_ge (tgt := 152) hK d_X11_over_65 (by decide) (fun h1 => ?_) (fun h1 => ?_)
  · have hD := if_t hD h1
    refine r_iload hK d_X11_over_152 rfl ?_
    refine r_if_ne (tgt := 162) hK d_X11_over_154 (by decide) (fun h2 => ?_) (fun h2 => ?_)
    · have hD := if_f hD h2
      refine r_iload hK d_X11_over_162 rfl ?_
      refine r_iconst hK d_X11_over_164 ci_1 ?_
      refine r_icmp_ne (tgt := 173) hK d_X11_over_165 (by decide) (fun h3 => ?_) (fun h3 => ?_)
      · have hD := if_f hD h3
        refine r_iload hK d_X11_over_173 rfl ?_
        cases hD
        exact r_iret hK d_X11_over_175
      · have hD := if_t hD h3
        refine r_iload hK d_X11_over_168 rfl ?_
        refine r_goto (tgt := 175) hK d_X11_over_170 (by decide) ?_
        cases hD
        exact r_iret hK d_X11_over_175
    · have hD := if_t hD h2
      refine r_iload hK d_X11_over_157 rfl ?_
      refine r_goto (tgt := 175) hK d_X11_over_159 (by decide) ?_
      cases hD
      exact r_iret hK d_X11_over_175
  · have hD := if_f hD h1
    refine r_aload_n hK d_X11_over_68 rfl rfl ?_
    refine r_getR hK d_X11_over_69 fl_RX11_76_10 rfl kd_0 ?_
    refine r_ref (b := 56) R0_0_11 ?_
    refine r_aload_n hK d_X11_over_72 rfl rfl ?_
    refine r_getR hK d_X11_over_73 fl_RX11_66_10 rfl kd_0 ?_
    refine r_ref (b := 26) R0_0_8 ?_
    obtain ⟨u5, e4, hD⟩ := bd0_e hD
    refine r_callV (As := [.ref 26]) (st := []) (stk2 := []) hK (C_X10_become kd_56 kd_26 e4) d_X11_over_76 mf_X10_become ml_RX11_278 im_X10_become rfl se_9_RX10_X10_become kd_56 rfl (Nat.le_of_ble_eq_true rfl) (by decide) ⟨Nat.zero_le _, Nat.zero_le _⟩ rfl rfl ?_
    refine r_aload_n hK d_X11_over_79 rfl rfl ?_
    refine r_getR hK d_X11_over_80 fl_RX11_76_10 rfl kd_0 ?_
    refine r_ref (b := 56) R0_0_11 ?_
    refine r_iload hK d_X11_over_83 rfl ?_
    refine r_i2l hK d_X11_over_85 ?_
    refine r_putL hK d_X11_over_86 fl_RX11_174_9 rfl rfl kd_56 ?_
    refine r_ltm hD (fun u6 hD => ?_)
    refine r_aload_n hK d_X11_over_89 rfl rfl ?_
    refine r_getR hK d_X11_over_90 fl_RX11_76_10 rfl kd_0 ?_
    refine r_ref (b := 56) R0_0_11 ?_
    refine r_iload_n hK d_X11_over_93 rfl rfl ?_
    refine r_iload_n hK d_X11_over_94 rfl rfl ?_
    obtain ⟨u8, e7, hD⟩ := bd0_e hD
    refine r_callV (As := [.int x1, .int x2]) (st := []) (stk2 := []) hK (C_X10_sail kd_56 e7) d_X11_over_95 mf_X10_sail ml_RX11_213 im_X10_sail rfl se_9_RX10_X10_sail kd_56 rfl (Nat.le_of_ble_eq_true rfl) (by decide) ⟨Nat.zero_le _, Nat.zero_le _⟩ rfl rfl ?_
    refine r_aload_n hK d_X11_over_98 rfl rfl ?_
    refine r_getR hK d_X11_over_99 fl_RX11_76_10 rfl kd_0 ?_
    refine r_ref (b := 56) R0_0_11 ?_
    obtain ⟨v11, u10, e9, hD⟩ := bd_e hD
    refine r_callV (As := []) (st := []) (stk2 := [.int v11]) hK (C_X10_lean kd_56 e9) d_X11_over_102 mf_X10_lean ml_RX11_256 im_X10_lean rfl se_9_RX10_X10_lean kd_56 rfl (Nat.le_of_ble_eq_true rfl) (by decide) ⟨Nat.zero_le _, Nat.zero_le _⟩ rfl rfl ?_
    refine r_istore hK d_X11_over_105 (by decide) (ls2 := [.ref 0, .int x1, .int x2, .int x3, .int x4, .int x5, .int x6, .int x7, .int x8, .int v11]) rfl ?_
    refine r_iload hK d_X11_over_107 rfl ?_
    refine r_aload_n hK d_X11_over_109 rfl rfl ?_
    refine r_getR hK d_X11_over_110 fl_RX11_76_10 rfl kd_0 ?_
    refine r_ref (b := 56) R0_0_11 ?_
    refine r_getZ hK d_X11_over_113 fl_RX11_262_9 rfl kd_56 ?_
    refine r_if_eq (tgt := 123) hK d_X11_over_116 (by decide) (fun h12 => ?_) (fun h12 => ?_)
    · have hD := if_t hD h12
      refine r_iconst hK d_X11_over_123 ci_0 ?_
      refine r_junk [true, true, true, true, true, false, true, true, true, true] (ls2 := [.ref 0, .int x1, .int x2, .int x3, .int x4, gs_J, .int x6, .int x7, .int x8, .int v11]) rfl ?_
      exact T_X11_over_124 hK hq62  hD
    · have hD := if_f hD h12
      refine r_iconst hK d_X11_over_119 ci_1 ?_
      refine r_goto (tgt := 124) hK d_X11_over_120 (by decide) ?_
      refine r_junk [true, true, true, true, true, false, true, true, true, true] (ls2 := [.ref 0, .int x1, .int x2, .int x3, .int x4, gs_J, .int x6, .int x7, .int x8, .int v11]) rfl ?_
      exact T_X11_over_124 hK hq62  hD
set_option maxRecDepth 20000 in
theorem TL_X11_over_62  (hK : KC p R s m args meth c ad g tyc RX11 cX11_over 10 (some .int) 6) {r : Int32} {μ2 : gs_M}   : ∀ (n : Nat) (x1 : Int32) (x2 : Int32) (x3 : Int32) (x4 : Int32) (x5 : Int32) (x6 : Int32) (x7 : Int32) (x8 : Int32) (μ : gs_M), L_X11_over_62  n x1 x2 x3 x4 x5 x6 x7 x8 μ = some (r, μ2) → WJ p l e R s m args below meth c 0 0 (MQ below (gs_Q ad g tyc (some (.int r)) μ2) args s 0 0 (gs_A ad)) ad g tyc 10 62 [.ref 0, .int x1, .int x2, .int x3, .int x4, .int x5, .int x6, .int x7, .int x8, gs_J] [] μ := by
  intro n
  induction n with
  | zero => intro x1 x2 x3 x4 x5 x6 x7 x8 μ  hD; cases hD
  | succ n ih => intro x1 x2 x3 x4 x5 x6 x7 x8 μ  hD; exact To_X11_over_62 hK  ih  hD
set_option maxRecDepth 20000 in
theorem C_X11_over  {x1 : Int32} {x2 : Int32} {x3 : Int32} {x4 : Int32} {μ : gs_M} {r : Int32} {μ2 : gs_M}  (hD : D_X11_over x1 x2 x3 x4 μ = some (r, μ2)) : CALL yX11_over cX11_over 10 (some .int) 6 [.ref 0, .int x1, .int x2, .int x3, .int x4] μ (some (.int r)) μ2 := by
  unfold D_X11_over at hD
  refine gs_enter mf_X11_over (Nat.le_of_ble_eq_true rfl) (ls := [.ref 0, .int x1, .int x2, .int x3, .int x4, gs_J, gs_J, gs_J, gs_J, gs_J]) rfl (fun p l e R s m args below meth c ad g tyc hK => ?_)
  have hK : KC p R s m args meth c ad g tyc RX11 cX11_over 10 (some .int) 6 := hK
  refine r_aload_n hK d_X11_over_0 rfl rfl ?_
  obtain ⟨v3, u2, e1, hD⟩ := bd_e hD
  refine r_callV (As := []) (st := []) (stk2 := [.int v3]) hK (C_X11_isReady  e1) d_X11_over_1 mf_X11_isReady ml_RX11_206 im_X11_isReady rfl se_10_RX11_X11_isReady kd_0 rfl (Nat.le_of_ble_eq_true rfl) (by decide) ⟨Nat.zero_le _, Nat.zero_le _⟩ rfl rfl ?_
  refine r_if_eq (tgt := 47) hK d_X11_over_4 (by decide) (fun h4 => ?_) (fun h4 => ?_)
  · have hD := if_t hD h4
    refine r_ldc hK d_X11_over_47 kc_RX11_231 ?_
    cases hD
    exact r_iret hK d_X11_over_49
  · have hD := if_f hD h4
    refine r_iload_n hK d_X11_over_7 rfl rfl ?_
    refine r_iconst hK d_X11_over_8 ci_0 ?_
    refine r_bipush hK d_X11_over_9 cb_30 ?_
    obtain ⟨v7, u6, e5, hD⟩ := bd_e hD
    refine r_callS (As := [.int x1, .int (0 : Int32), .int (30 : Int32)]) (st := []) (stk2 := [.int v7]) hK (C_X11_within  e5) d_X11_over_11 mf_X11_within ml_RX11_123 ss_X11_within rfl (Nat.le_of_ble_eq_true rfl) (by decide) ⟨Nat.zero_le _, Nat.zero_le _⟩ rfl rfl ?_
    refine r_if_eq (tgt := 47) hK d_X11_over_14 (by decide) (fun h8 => ?_) (fun h8 => ?_)
    · have hD := if_t hD h8
      refine r_ldc hK d_X11_over_47 kc_RX11_231 ?_
      cases hD
      exact r_iret hK d_X11_over_49
    · have hD := if_f hD h8
      refine r_iload_n hK d_X11_over_17 rfl rfl ?_
      refine r_iconst hK d_X11_over_18 ci_1 ?_
      refine r_bipush hK d_X11_over_19 cb_9 ?_
      obtain ⟨v11, u10, e9, hD⟩ := bd_e hD
      refine r_callS (As := [.int x2, .int (1 : Int32), .int (9 : Int32)]) (st := []) (stk2 := [.int v11]) hK (C_X11_within  e9) d_X11_over_21 mf_X11_within ml_RX11_123 ss_X11_within rfl (Nat.le_of_ble_eq_true rfl) (by decide) ⟨Nat.zero_le _, Nat.zero_le _⟩ rfl rfl ?_
      refine r_if_eq (tgt := 47) hK d_X11_over_24 (by decide) (fun h12 => ?_) (fun h12 => ?_)
      · have hD := if_t hD h12
        refine r_ldc hK d_X11_over_47 kc_RX11_231 ?_
        cases hD
        exact r_iret hK d_X11_over_49
      · have hD := if_f hD h12
        refine r_iload_n hK d_X11_over_27 rfl rfl ?_
        refine r_iconst hK d_X11_over_28 ci_1 ?_
        refine r_bipush hK d_X11_over_29 cb_20 ?_
        obtain ⟨v15, u14, e13, hD⟩ := bd_e hD
        refine r_callS (As := [.int x3, .int (1 : Int32), .int (20 : Int32)]) (st := []) (stk2 := [.int v15]) hK (C_X11_within  e13) d_X11_over_31 mf_X11_within ml_RX11_123 ss_X11_within rfl (Nat.le_of_ble_eq_true rfl) (by decide) ⟨Nat.zero_le _, Nat.zero_le _⟩ rfl rfl ?_
        refine r_if_eq (tgt := 47) hK d_X11_over_34 (by decide) (fun h16 => ?_) (fun h16 => ?_)
        · have hD := if_t hD h16
          refine r_ldc hK d_X11_over_47 kc_RX11_231 ?_
          cases hD
          exact r_iret hK d_X11_over_49
        · have hD := if_f hD h16
          refine r_iload hK d_X11_over_37 rfl ?_
          refine r_iconst hK d_X11_over_39 ci_0 ?_
          refine r_iconst hK d_X11_over_40 ci_2 ?_
          obtain ⟨v19, u18, e17, hD⟩ := bd_e hD
          refine r_callS (As := [.int x4, .int (0 : Int32), .int (2 : Int32)]) (st := []) (stk2 := [.int v19]) hK (C_X11_within  e17) d_X11_over_41 mf_X11_within ml_RX11_123 ss_X11_within rfl (Nat.le_of_ble_eq_true rfl) (by decide) ⟨Nat.zero_le _, Nat.zero_le _⟩ rfl rfl ?_
          refine r_if_ne (tgt := 50) hK d_X11_over_44 (by decide) (fun h20 => ?_) (fun h20 => ?_)
          · have hD := if_f hD h20
            refine r_iconst hK d_X11_over_50 ci_0 ?_
            refine r_istore hK d_X11_over_51 (by decide) (ls2 := [.ref 0, .int x1, .int x2, .int x3, .int x4, .int (0 : Int32), gs_J, gs_J, gs_J, gs_J]) rfl ?_
            refine r_iconst hK d_X11_over_53 ci_0 ?_
            refine r_istore hK d_X11_over_54 (by decide) (ls2 := [.ref 0, .int x1, .int x2, .int x3, .int x4, .int (0 : Int32), .int (0 : Int32), gs_J, gs_J, gs_J]) rfl ?_
            refine r_iconst hK d_X11_over_56 ci_0 ?_
            refine r_istore hK d_X11_over_57 (by decide) (ls2 := [.ref 0, .int x1, .int x2, .int x3, .int x4, .int (0 : Int32), .int (0 : Int32), .int (0 : Int32), gs_J, gs_J]) rfl ?_
            refine r_iconst hK d_X11_over_59 ci_0 ?_
            refine r_istore hK d_X11_over_60 (by decide) (ls2 := [.ref 0, .int x1, .int x2, .int x3, .int x4, .int (0 : Int32), .int (0 : Int32), .int (0 : Int32), .int (0 : Int32), gs_J]) rfl ?_
            exact TL_X11_over_62 hK  _ _ _ _ _ _ _ _ _ _  hD
          · have hD := if_t hD h20
            refine r_ldc hK d_X11_over_47 kc_RX11_231 ?_
            cases hD
            exact r_iret hK d_X11_over_49
end S_X11_over
theorem d_X11_soonest_0 : gd cX11_soonest 0 (.aload_n 0) 1 1 := ⟨by decide +kernel, rfl⟩
theorem d_X11_soonest_1 : gd cX11_soonest 1 (.invokevirtual 206) 3 4 := ⟨by decide +kernel, rfl⟩
theorem d_X11_soonest_4 : gd cX11_soonest 4 (.ifCond .eq 13) 3 7 := ⟨by decide +kernel, rfl⟩
theorem d_X11_soonest_7 : gd cX11_soonest 7 (.iload_n 1) 1 8 := ⟨by decide +kernel, rfl⟩
theorem d_X11_soonest_8 : gd cX11_soonest 8 (.iconst 0) 1 9 := ⟨by decide +kernel, rfl⟩
theorem d_X11_soonest_9 : gd cX11_soonest 9 (.bipush 30) 2 11 := ⟨by decide +kernel, rfl⟩
theorem d_X11_soonest_11 : gd cX11_soonest 11 (.invokestatic 123) 3 14 := ⟨by decide +kernel, rfl⟩
theorem d_X11_soonest_14 : gd cX11_soonest 14 (.ifCond .ne 5) 3 17 := ⟨by decide +kernel, rfl⟩
theorem d_X11_soonest_17 : gd cX11_soonest 17 (.iconst (-1)) 1 18 := ⟨by decide +kernel, rfl⟩
theorem d_X11_soonest_18 : gd cX11_soonest 18 .ireturn 1 19 := ⟨by decide +kernel, rfl⟩
theorem d_X11_soonest_19 : gd cX11_soonest 19 (.aload_n 0) 1 20 := ⟨by decide +kernel, rfl⟩
theorem d_X11_soonest_20 : gd cX11_soonest 20 (.getfield 76) 3 23 := ⟨by decide +kernel, rfl⟩
theorem d_X11_soonest_23 : gd cX11_soonest 23 (.aload_n 0) 1 24 := ⟨by decide +kernel, rfl⟩
theorem d_X11_soonest_24 : gd cX11_soonest 24 (.getfield 66) 3 27 := ⟨by decide +kernel, rfl⟩
theorem d_X11_soonest_27 : gd cX11_soonest 27 (.invokevirtual 278) 3 30 := ⟨by decide +kernel, rfl⟩
theorem d_X11_soonest_30 : gd cX11_soonest 30 (.iconst 1) 1 31 := ⟨by decide +kernel, rfl⟩
theorem d_X11_soonest_31 : gd cX11_soonest 31 (.istore_n 2) 1 32 := ⟨by decide +kernel, rfl⟩
theorem d_X11_soonest_32 : gd cX11_soonest 32 (.iload_n 2) 1 33 := ⟨by decide +kernel, rfl⟩
theorem d_X11_soonest_33 : gd cX11_soonest 33 (.bipush 30) 2 35 := ⟨by decide +kernel, rfl⟩
theorem d_X11_soonest_35 : gd cX11_soonest 35 (.if_icmp .gt 30) 3 38 := ⟨by decide +kernel, rfl⟩
theorem d_X11_soonest_38 : gd cX11_soonest 38 (.aload_n 0) 1 39 := ⟨by decide +kernel, rfl⟩
theorem d_X11_soonest_39 : gd cX11_soonest 39 (.getfield 76) 3 42 := ⟨by decide +kernel, rfl⟩
theorem d_X11_soonest_42 : gd cX11_soonest 42 (.iload_n 1) 1 43 := ⟨by decide +kernel, rfl⟩
theorem d_X11_soonest_43 : gd cX11_soonest 43 (.iconst 1) 1 44 := ⟨by decide +kernel, rfl⟩
theorem d_X11_soonest_44 : gd cX11_soonest 44 (.invokevirtual 213) 3 47 := ⟨by decide +kernel, rfl⟩
theorem d_X11_soonest_47 : gd cX11_soonest 47 (.aload_n 0) 1 48 := ⟨by decide +kernel, rfl⟩
theorem d_X11_soonest_48 : gd cX11_soonest 48 (.getfield 76) 3 51 := ⟨by decide +kernel, rfl⟩
theorem d_X11_soonest_51 : gd cX11_soonest 51 (.getfield 262) 3 54 := ⟨by decide +kernel, rfl⟩
theorem d_X11_soonest_54 : gd cX11_soonest 54 (.ifCond .eq 5) 3 57 := ⟨by decide +kernel, rfl⟩
theorem d_X11_soonest_57 : gd cX11_soonest 57 (.iload_n 2) 1 58 := ⟨by decide +kernel, rfl⟩
theorem d_X11_soonest_58 : gd cX11_soonest 58 .ireturn 1 59 := ⟨by decide +kernel, rfl⟩
theorem d_X11_soonest_59 : gd cX11_soonest 59 (.iinc 2 1) 3 62 := ⟨by decide +kernel, rfl⟩
theorem d_X11_soonest_62 : gd cX11_soonest 62 (.goto (-30)) 3 65 := ⟨by decide +kernel, rfl⟩
theorem d_X11_soonest_65 : gd cX11_soonest 65 (.iconst (-1)) 1 66 := ⟨by decide +kernel, rfl⟩
theorem d_X11_soonest_66 : gd cX11_soonest 66 .ireturn 1 67 := ⟨by decide +kernel, rfl⟩
def Bo_X11_soonest_32 (q32 : Int32 → Int32 → gs_M → Option (Int32 × gs_M)) (x1 : Int32) (x2 : Int32) (μ : gs_M) : Option (Int32 × gs_M) :=
  if (30 : Int32) < x2 then (some ((-1 : Int32), μ)) else (bd0 (D_X10_sail 56 x1 (1 : Int32) μ) (fun u3 => if (gI u3 56 4) = 0 then (q32 x1 (x2 + (1 : Int32)) u3) else (some (x2, u3))))
def L_X11_soonest_32  : Nat → Int32 → Int32 → gs_M → Option (Int32 × gs_M)
  | 0 => fun _ _ _ => none
  | n + 1 => fun x1 x2 μ => Bo_X11_soonest_32  (L_X11_soonest_32  n) x1 x2 μ
def D_X11_soonest (x1 : Int32) (μ : gs_M) : Option (Int32 × gs_M) :=
  bd (D_X11_isReady μ) (fun v3 u2 => if v3 = 0 then (some ((-1 : Int32), u2)) else (bd (D_X11_within x1 (0 : Int32) (30 : Int32) u2) (fun v7 u6 => if v7 = 0 then (some ((-1 : Int32), u6)) else (bd0 (D_X10_become 56 26 u6) (fun u10 => L_X11_soonest_32 4096 x1 (1 : Int32) u10)))))
section S_X11_soonest
variable {p : Program} {l : Launch} {e : Env} {R : Room} {s : State} {m : MethodId} {args : Array Value} {below : List Frame} {meth : Method} {c : Code} {ad : Nat → Nat} {g : va_G} {tyc : Nat → ClassId}
set_option maxRecDepth 20000 in
theorem To_X11_soonest_32  (hK : KC p R s m args meth c ad g tyc RX11 cX11_soonest 3 (some .int) 6) {r : Int32} {μ2 : gs_M} {q32 : Int32 → Int32 → gs_M → Option (Int32 × gs_M)} (hq32 : ∀ (x1 : Int32) (x2 : Int32) (μ : gs_M), q32 x1 x2 μ = some (r, μ2) → WJ p l e R s m args below meth c 0 0 (MQ below (gs_Q ad g tyc (some (.int r)) μ2) args s 0 0 (gs_A ad)) ad g tyc 3 32 [.ref 0, .int x1, .int x2] [] μ) {x1 : Int32} {x2 : Int32} {μ : gs_M}  (hD : Bo_X11_soonest_32 q32 x1 x2 μ = some (r, μ2)) : WJ p l e R s m args below meth c 0 0 (MQ below (gs_Q ad g tyc (some (.int r)) μ2) args s 0 0 (gs_A ad)) ad g tyc 3 32 [.ref 0, .int x1, .int x2] [] μ := by
  unfold Bo_X11_soonest_32 at hD
  refine r_iload_n hK d_X11_soonest_32 rfl rfl ?_
  refine r_bipush hK d_X11_soonest_33 cb_30 ?_
  refine r_icmp_gt (tgt := 65) hK d_X11_soonest_35 (by decide) (fun h1 => ?_) (fun h1 => ?_)
  · have hD := if_t hD h1
    refine r_iconst hK d_X11_soonest_65 ci_m1 ?_
    cases hD
    exact r_iret hK d_X11_soonest_66
  · have hD := if_f hD h1
    refine r_aload_n hK d_X11_soonest_38 rfl rfl ?_
    refine r_getR hK d_X11_soonest_39 fl_RX11_76_10 rfl kd_0 ?_
    refine r_ref (b := 56) R0_0_11 ?_
    refine r_iload_n hK d_X11_soonest_42 rfl rfl ?_
    refine r_iconst hK d_X11_soonest_43 ci_1 ?_
    obtain ⟨u3, e2, hD⟩ := bd0_e hD
    refine r_callV (As := [.int x1, .int (1 : Int32)]) (st := []) (stk2 := []) hK (C_X10_sail kd_56 e2) d_X11_soonest_44 mf_X10_sail ml_RX11_213 im_X10_sail rfl se_9_RX10_X10_sail kd_56 rfl (Nat.le_of_ble_eq_true rfl) (by decide) ⟨Nat.zero_le _, Nat.zero_le _⟩ rfl rfl ?_
    refine r_aload_n hK d_X11_soonest_47 rfl rfl ?_
    refine r_getR hK d_X11_soonest_48 fl_RX11_76_10 rfl kd_0 ?_
    refine r_ref (b := 56) R0_0_11 ?_
    refine r_getZ hK d_X11_soonest_51 fl_RX11_262_9 rfl kd_56 ?_
    refine r_if_eq (tgt := 59) hK d_X11_soonest_54 (by decide) (fun h4 => ?_) (fun h4 => ?_)
    · have hD := if_t hD h4
      refine r_iinc hK d_X11_soonest_59 rfl (v := x2 + (1 : Int32)) (by rw [ci_1]) (by decide) (ls2 := [.ref 0, .int x1, .int (x2 + (1 : Int32))]) rfl ?_
      refine r_goto (tgt := 32) hK d_X11_soonest_62 (by decide) ?_
      exact hq32 _ _ _  hD
    · have hD := if_f hD h4
      refine r_iload_n hK d_X11_soonest_57 rfl rfl ?_
      cases hD
      exact r_iret hK d_X11_soonest_58
set_option maxRecDepth 20000 in
theorem TL_X11_soonest_32  (hK : KC p R s m args meth c ad g tyc RX11 cX11_soonest 3 (some .int) 6) {r : Int32} {μ2 : gs_M}   : ∀ (n : Nat) (x1 : Int32) (x2 : Int32) (μ : gs_M), L_X11_soonest_32  n x1 x2 μ = some (r, μ2) → WJ p l e R s m args below meth c 0 0 (MQ below (gs_Q ad g tyc (some (.int r)) μ2) args s 0 0 (gs_A ad)) ad g tyc 3 32 [.ref 0, .int x1, .int x2] [] μ := by
  intro n
  induction n with
  | zero => intro x1 x2 μ  hD; cases hD
  | succ n ih => intro x1 x2 μ  hD; exact To_X11_soonest_32 hK  ih  hD
set_option maxRecDepth 20000 in
theorem C_X11_soonest  {x1 : Int32} {μ : gs_M} {r : Int32} {μ2 : gs_M}  (hD : D_X11_soonest x1 μ = some (r, μ2)) : CALL yX11_soonest cX11_soonest 3 (some .int) 6 [.ref 0, .int x1] μ (some (.int r)) μ2 := by
  unfold D_X11_soonest at hD
  refine gs_enter mf_X11_soonest (Nat.le_of_ble_eq_true rfl) (ls := [.ref 0, .int x1, gs_J]) rfl (fun p l e R s m args below meth c ad g tyc hK => ?_)
  have hK : KC p R s m args meth c ad g tyc RX11 cX11_soonest 3 (some .int) 6 := hK
  refine r_aload_n hK d_X11_soonest_0 rfl rfl ?_
  obtain ⟨v3, u2, e1, hD⟩ := bd_e hD
  refine r_callV (As := []) (st := []) (stk2 := [.int v3]) hK (C_X11_isReady  e1) d_X11_soonest_1 mf_X11_isReady ml_RX11_206 im_X11_isReady rfl se_10_RX11_X11_isReady kd_0 rfl (Nat.le_of_ble_eq_true rfl) (by decide) ⟨Nat.zero_le _, Nat.zero_le _⟩ rfl rfl ?_
  refine r_if_eq (tgt := 17) hK d_X11_soonest_4 (by decide) (fun h4 => ?_) (fun h4 => ?_)
  · have hD := if_t hD h4
    refine r_iconst hK d_X11_soonest_17 ci_m1 ?_
    cases hD
    exact r_iret hK d_X11_soonest_18
  · have hD := if_f hD h4
    refine r_iload_n hK d_X11_soonest_7 rfl rfl ?_
    refine r_iconst hK d_X11_soonest_8 ci_0 ?_
    refine r_bipush hK d_X11_soonest_9 cb_30 ?_
    obtain ⟨v7, u6, e5, hD⟩ := bd_e hD
    refine r_callS (As := [.int x1, .int (0 : Int32), .int (30 : Int32)]) (st := []) (stk2 := [.int v7]) hK (C_X11_within  e5) d_X11_soonest_11 mf_X11_within ml_RX11_123 ss_X11_within rfl (Nat.le_of_ble_eq_true rfl) (by decide) ⟨Nat.zero_le _, Nat.zero_le _⟩ rfl rfl ?_
    refine r_if_ne (tgt := 19) hK d_X11_soonest_14 (by decide) (fun h8 => ?_) (fun h8 => ?_)
    · have hD := if_f hD h8
      refine r_aload_n hK d_X11_soonest_19 rfl rfl ?_
      refine r_getR hK d_X11_soonest_20 fl_RX11_76_10 rfl kd_0 ?_
      refine r_ref (b := 56) R0_0_11 ?_
      refine r_aload_n hK d_X11_soonest_23 rfl rfl ?_
      refine r_getR hK d_X11_soonest_24 fl_RX11_66_10 rfl kd_0 ?_
      refine r_ref (b := 26) R0_0_8 ?_
      obtain ⟨u10, e9, hD⟩ := bd0_e hD
      refine r_callV (As := [.ref 26]) (st := []) (stk2 := []) hK (C_X10_become kd_56 kd_26 e9) d_X11_soonest_27 mf_X10_become ml_RX11_278 im_X10_become rfl se_9_RX10_X10_become kd_56 rfl (Nat.le_of_ble_eq_true rfl) (by decide) ⟨Nat.zero_le _, Nat.zero_le _⟩ rfl rfl ?_
      refine r_iconst hK d_X11_soonest_30 ci_1 ?_
      refine r_istore_n hK d_X11_soonest_31 rfl (by decide) (ls2 := [.ref 0, .int x1, .int (1 : Int32)]) rfl ?_
      exact TL_X11_soonest_32 hK  _ _ _ _  hD
    · have hD := if_t hD h8
      refine r_iconst hK d_X11_soonest_17 ci_m1 ?_
      cases hD
      exact r_iret hK d_X11_soonest_18
end S_X11_soonest
theorem d_X11_bookIsOff_0 : gd cX11_bookIsOff 0 (.aload_n 0) 1 1 := ⟨by decide +kernel, rfl⟩
theorem d_X11_bookIsOff_1 : gd cX11_bookIsOff 1 (.getfield 66) 3 4 := ⟨by decide +kernel, rfl⟩
theorem d_X11_bookIsOff_4 : gd cX11_bookIsOff 4 (.invokevirtual 256) 3 7 := ⟨by decide +kernel, rfl⟩
theorem d_X11_bookIsOff_7 : gd cX11_bookIsOff 7 (.istore_n 2) 1 8 := ⟨by decide +kernel, rfl⟩
theorem d_X11_bookIsOff_8 : gd cX11_bookIsOff 8 (.iconst 0) 1 9 := ⟨by decide +kernel, rfl⟩
theorem d_X11_bookIsOff_9 : gd cX11_bookIsOff 9 (.istore_n 3) 1 10 := ⟨by decide +kernel, rfl⟩
theorem d_X11_bookIsOff_10 : gd cX11_bookIsOff 10 (.iconst 0) 1 11 := ⟨by decide +kernel, rfl⟩
theorem d_X11_bookIsOff_11 : gd cX11_bookIsOff 11 (.istore 4) 2 13 := ⟨by decide +kernel, rfl⟩
theorem d_X11_bookIsOff_13 : gd cX11_bookIsOff 13 (.iload 4) 2 15 := ⟨by decide +kernel, rfl⟩
theorem d_X11_bookIsOff_15 : gd cX11_bookIsOff 15 (.bipush 8) 2 17 := ⟨by decide +kernel, rfl⟩
theorem d_X11_bookIsOff_17 : gd cX11_bookIsOff 17 (.if_icmp .ge 55) 3 20 := ⟨by decide +kernel, rfl⟩
theorem d_X11_bookIsOff_20 : gd cX11_bookIsOff 20 (.iload_n 1) 1 21 := ⟨by decide +kernel, rfl⟩
theorem d_X11_bookIsOff_21 : gd cX11_bookIsOff 21 (.iconst 5) 1 22 := ⟨by decide +kernel, rfl⟩
theorem d_X11_bookIsOff_22 : gd cX11_bookIsOff 22 .imul 1 23 := ⟨by decide +kernel, rfl⟩
theorem d_X11_bookIsOff_23 : gd cX11_bookIsOff 23 (.iload 4) 2 25 := ⟨by decide +kernel, rfl⟩
theorem d_X11_bookIsOff_25 : gd cX11_bookIsOff 25 (.iconst 1) 1 26 := ⟨by decide +kernel, rfl⟩
theorem d_X11_bookIsOff_26 : gd cX11_bookIsOff 26 .iadd 1 27 := ⟨by decide +kernel, rfl⟩
theorem d_X11_bookIsOff_27 : gd cX11_bookIsOff 27 .imul 1 28 := ⟨by decide +kernel, rfl⟩
theorem d_X11_bookIsOff_28 : gd cX11_bookIsOff 28 (.bipush 10) 2 30 := ⟨by decide +kernel, rfl⟩
theorem d_X11_bookIsOff_30 : gd cX11_bookIsOff 30 .idiv 1 31 := ⟨by decide +kernel, rfl⟩
theorem d_X11_bookIsOff_31 : gd cX11_bookIsOff 31 (.istore 5) 2 33 := ⟨by decide +kernel, rfl⟩
theorem d_X11_bookIsOff_33 : gd cX11_bookIsOff 33 (.iload_n 2) 1 34 := ⟨by decide +kernel, rfl⟩
theorem d_X11_bookIsOff_34 : gd cX11_bookIsOff 34 (.ifCond .ge 10) 3 37 := ⟨by decide +kernel, rfl⟩
theorem d_X11_bookIsOff_37 : gd cX11_bookIsOff 37 (.iload_n 2) 1 38 := ⟨by decide +kernel, rfl⟩
theorem d_X11_bookIsOff_38 : gd cX11_bookIsOff 38 (.iload 5) 2 40 := ⟨by decide +kernel, rfl⟩
theorem d_X11_bookIsOff_40 : gd cX11_bookIsOff 40 .isub 1 41 := ⟨by decide +kernel, rfl⟩
theorem d_X11_bookIsOff_41 : gd cX11_bookIsOff 41 (.goto 7) 3 44 := ⟨by decide +kernel, rfl⟩
theorem d_X11_bookIsOff_44 : gd cX11_bookIsOff 44 (.iload_n 2) 1 45 := ⟨by decide +kernel, rfl⟩
theorem d_X11_bookIsOff_45 : gd cX11_bookIsOff 45 (.iload 5) 2 47 := ⟨by decide +kernel, rfl⟩
theorem d_X11_bookIsOff_47 : gd cX11_bookIsOff 47 .iadd 1 48 := ⟨by decide +kernel, rfl⟩
theorem d_X11_bookIsOff_48 : gd cX11_bookIsOff 48 (.istore 6) 2 50 := ⟨by decide +kernel, rfl⟩
theorem d_X11_bookIsOff_50 : gd cX11_bookIsOff 50 (.iload_n 3) 1 51 := ⟨by decide +kernel, rfl⟩
theorem d_X11_bookIsOff_51 : gd cX11_bookIsOff 51 (.iload 6) 2 53 := ⟨by decide +kernel, rfl⟩
theorem d_X11_bookIsOff_53 : gd cX11_bookIsOff 53 (.aload_n 0) 1 54 := ⟨by decide +kernel, rfl⟩
theorem d_X11_bookIsOff_54 : gd cX11_bookIsOff 54 (.getfield 104) 3 57 := ⟨by decide +kernel, rfl⟩
theorem d_X11_bookIsOff_57 : gd cX11_bookIsOff 57 (.iload 4) 2 59 := ⟨by decide +kernel, rfl⟩
theorem d_X11_bookIsOff_59 : gd cX11_bookIsOff 59 .iaload 1 60 := ⟨by decide +kernel, rfl⟩
theorem d_X11_bookIsOff_60 : gd cX11_bookIsOff 60 .isub 1 61 := ⟨by decide +kernel, rfl⟩
theorem d_X11_bookIsOff_61 : gd cX11_bookIsOff 61 (.invokestatic 286) 3 64 := ⟨by decide +kernel, rfl⟩
theorem d_X11_bookIsOff_64 : gd cX11_bookIsOff 64 .iadd 1 65 := ⟨by decide +kernel, rfl⟩
theorem d_X11_bookIsOff_65 : gd cX11_bookIsOff 65 (.istore_n 3) 1 66 := ⟨by decide +kernel, rfl⟩
theorem d_X11_bookIsOff_66 : gd cX11_bookIsOff 66 (.iinc 4 1) 3 69 := ⟨by decide +kernel, rfl⟩
theorem d_X11_bookIsOff_69 : gd cX11_bookIsOff 69 (.goto (-56)) 3 72 := ⟨by decide +kernel, rfl⟩
theorem d_X11_bookIsOff_72 : gd cX11_bookIsOff 72 (.iload_n 3) 1 73 := ⟨by decide +kernel, rfl⟩
theorem d_X11_bookIsOff_73 : gd cX11_bookIsOff 73 .ireturn 1 74 := ⟨by decide +kernel, rfl⟩
def B_X11_bookIsOff_48 (q13 : Int32 → Int32 → Int32 → Int32 → gs_M → Option (Int32 × gs_M)) (x1 : Int32) (x2 : Int32) (x3 : Int32) (x4 : Int32) (xs0 : Int32) (μ : gs_M) : Option (Int32 × gs_M) :=
  ck (inb x4 8) (lt1 (if 0 ≤ (xs0 - (gI μ 75 (Int32.toNatClampNeg x4))) then (xs0 - (gI μ 75 (Int32.toNatClampNeg x4))) else 0 - (xs0 - (gI μ 75 (Int32.toNatClampNeg x4)))) (fun v2 => lt1 (x3 + v2) (fun v3 => q13 x1 x2 v3 (x4 + (1 : Int32)) μ)))
def Bo_X11_bookIsOff_13 (q13 : Int32 → Int32 → Int32 → Int32 → gs_M → Option (Int32 × gs_M)) (x1 : Int32) (x2 : Int32) (x3 : Int32) (x4 : Int32) (μ : gs_M) : Option (Int32 × gs_M) :=
  if (8 : Int32) ≤ x4 then (some (x3, μ)) else (lt1 (((x1 * (5 : Int32)) * (x4 + (1 : Int32))) / (10 : Int32)) (fun v2 => if 0 ≤ x2 then (B_X11_bookIsOff_48 q13 x1 x2 x3 x4 (x2 + v2) μ) else (B_X11_bookIsOff_48 q13 x1 x2 x3 x4 (x2 - v2) μ)))
def L_X11_bookIsOff_13  : Nat → Int32 → Int32 → Int32 → Int32 → gs_M → Option (Int32 × gs_M)
  | 0 => fun _ _ _ _ _ => none
  | n + 1 => fun x1 x2 x3 x4 μ => Bo_X11_bookIsOff_13  (L_X11_bookIsOff_13  n) x1 x2 x3 x4 μ
def D_X11_bookIsOff (x1 : Int32) (μ : gs_M) : Option (Int32 × gs_M) :=
  bd (D_X10_lean 26 μ) (fun v3 u2 => L_X11_bookIsOff_13 4096 x1 v3 (0 : Int32) (0 : Int32) u2)
section S_X11_bookIsOff
variable {p : Program} {l : Launch} {e : Env} {R : Room} {s : State} {m : MethodId} {args : Array Value} {below : List Frame} {meth : Method} {c : Code} {ad : Nat → Nat} {g : va_G} {tyc : Nat → ClassId}
set_option maxRecDepth 20000 in
theorem T_X11_bookIsOff_48  (hK : KC p R s m args meth c ad g tyc RX11 cX11_bookIsOff 7 (some .int) 3) {r : Int32} {μ2 : gs_M} {q13 : Int32 → Int32 → Int32 → Int32 → gs_M → Option (Int32 × gs_M)} (hq13 : ∀ (x1 : Int32) (x2 : Int32) (x3 : Int32) (x4 : Int32) (μ : gs_M), q13 x1 x2 x3 x4 μ = some (r, μ2) → WJ p l e R s m args below meth c 0 0 (MQ below (gs_Q ad g tyc (some (.int r)) μ2) args s 0 0 (gs_A ad)) ad g tyc 7 13 [.ref 0, .int x1, .int x2, .int x3, .int x4, gs_J, gs_J] [] μ) {x1 : Int32} {x2 : Int32} {x3 : Int32} {x4 : Int32} {xs0 : Int32} {μ : gs_M}  (hD : B_X11_bookIsOff_48 q13 x1 x2 x3 x4 xs0 μ = some (r, μ2)) : WJ p l e R s m args below meth c 0 0 (MQ below (gs_Q ad g tyc (some (.int r)) μ2) args s 0 0 (gs_A ad)) ad g tyc 7 48 [.ref 0, .int x1, .int x2, .int x3, .int x4, gs_J, gs_J] [.int xs0] μ := by
  unfold B_X11_bookIsOff_48 at hD
  refine r_istore hK d_X11_bookIsOff_48 (by decide) (ls2 := [.ref 0, .int x1, .int x2, .int x3, .int x4, gs_J, .int xs0]) rfl ?_
  refine r_iload_n hK d_X11_bookIsOff_50 rfl rfl ?_
  refine r_iload hK d_X11_bookIsOff_51 rfl ?_
  refine r_aload_n hK d_X11_bookIsOff_53 rfl rfl ?_
  refine r_getR hK d_X11_bookIsOff_54 fl_RX11_104_10 rfl kd_0 ?_
  refine r_ref (b := 75) R0_0_17 ?_
  refine r_iload hK d_X11_bookIsOff_57 rfl ?_
  obtain ⟨h1, hD⟩ := ck_e hD
  refine r_iald hK d_X11_bookIsOff_59 kd_75 ln_75 (inb_in h1) ?_
  refine r_isub hK d_X11_bookIsOff_60 ?_
  refine r_mabs hK d_X11_bookIsOff_61 mm_RX11_286 ms_abs mi_0 mc_abs (Nat.le_of_ble_eq_true rfl) (by decide) ⟨Nat.zero_le _, Nat.zero_le _⟩ ?_
  refine r_lti hD (fun v2 hD => ?_)
  refine r_iadd hK d_X11_bookIsOff_64 ?_
  refine r_lti hD (fun v3 hD => ?_)
  refine r_istore_n hK d_X11_bookIsOff_65 rfl (by decide) (ls2 := [.ref 0, .int x1, .int x2, .int v3, .int x4, gs_J, .int xs0]) rfl ?_
  refine r_iinc hK d_X11_bookIsOff_66 rfl (v := x4 + (1 : Int32)) (by rw [ci_1]) (by decide) (ls2 := [.ref 0, .int x1, .int x2, .int v3, .int (x4 + (1 : Int32)), gs_J, .int xs0]) rfl ?_
  refine r_goto (tgt := 13) hK d_X11_bookIsOff_69 (by decide) ?_
  refine r_junk [true, true, true, true, true, false, false] (ls2 := [.ref 0, .int x1, .int x2, .int v3, .int (x4 + (1 : Int32)), gs_J, gs_J]) rfl ?_
  exact hq13 _ _ _ _ _  hD
set_option maxRecDepth 20000 in
theorem To_X11_bookIsOff_13  (hK : KC p R s m args meth c ad g tyc RX11 cX11_bookIsOff 7 (some .int) 3) {r : Int32} {μ2 : gs_M} {q13 : Int32 → Int32 → Int32 → Int32 → gs_M → Option (Int32 × gs_M)} (hq13 : ∀ (x1 : Int32) (x2 : Int32) (x3 : Int32) (x4 : Int32) (μ : gs_M), q13 x1 x2 x3 x4 μ = some (r, μ2) → WJ p l e R s m args below meth c 0 0 (MQ below (gs_Q ad g tyc (some (.int r)) μ2) args s 0 0 (gs_A ad)) ad g tyc 7 13 [.ref 0, .int x1, .int x2, .int x3, .int x4, gs_J, gs_J] [] μ) {x1 : Int32} {x2 : Int32} {x3 : Int32} {x4 : Int32} {μ : gs_M}  (hD : Bo_X11_bookIsOff_13 q13 x1 x2 x3 x4 μ = some (r, μ2)) : WJ p l e R s m args below meth c 0 0 (MQ below (gs_Q ad g tyc (some (.int r)) μ2) args s 0 0 (gs_A ad)) ad g tyc 7 13 [.ref 0, .int x1, .int x2, .int x3, .int x4, gs_J, gs_J] [] μ := by
  unfold Bo_X11_bookIsOff_13 at hD
  refine r_iload hK d_X11_bookIsOff_13 rfl ?_
  refine r_bipush hK d_X11_bookIsOff_15 cb_8 ?_
  refine r_icmp_ge (tgt := 72) hK d_X11_bookIsOff_17 (by decide) (fun h1 => ?_) (fun h1 => ?_)
  · have hD := if_t hD h1
    refine r_iload_n hK d_X11_bookIsOff_72 rfl rfl ?_
    cases hD
    exact r_iret hK d_X11_bookIsOff_73
  · have hD := if_f hD h1
    refine r_iload_n hK d_X11_bookIsOff_20 rfl rfl ?_
    refine r_iconst hK d_X11_bookIsOff_21 ci_5 ?_
    refine r_imul hK d_X11_bookIsOff_22 ?_
    refine r_iload hK d_X11_bookIsOff_23 rfl ?_
    refine r_iconst hK d_X11_bookIsOff_25 ci_1 ?_
    refine r_iadd hK d_X11_bookIsOff_26 ?_
    refine r_imul hK d_X11_bookIsOff_27 ?_
    refine r_bipush hK d_X11_bookIsOff_28 cb_10 ?_
    refine r_idiv hK d_X11_bookIsOff_30 (by decide) ?_
    refine r_lti hD (fun v2 hD => ?_)
    refine r_istore hK d_X11_bookIsOff_31 (by decide) (ls2 := [.ref 0, .int x1, .int x2, .int x3, .int x4, .int v2, gs_J]) rfl ?_
    refine r_iload_n hK d_X11_bookIsOff_33 rfl rfl ?_
    refine r_if_ge (tgt := 44) hK d_X11_bookIsOff_34 (by decide) (fun h3 => ?_) (fun h3 => ?_)
    · have hD := if_t hD h3
      refine r_iload_n hK d_X11_bookIsOff_44 rfl rfl ?_
      refine r_iload hK d_X11_bookIsOff_45 rfl ?_
      refine r_iadd hK d_X11_bookIsOff_47 ?_
      refine r_junk [true, true, true, true, true, false, false] (ls2 := [.ref 0, .int x1, .int x2, .int x3, .int x4, gs_J, gs_J]) rfl ?_
      exact T_X11_bookIsOff_48 hK hq13  hD
    · have hD := if_f hD h3
      refine r_iload_n hK d_X11_bookIsOff_37 rfl rfl ?_
      refine r_iload hK d_X11_bookIsOff_38 rfl ?_
      refine r_isub hK d_X11_bookIsOff_40 ?_
      refine r_goto (tgt := 48) hK d_X11_bookIsOff_41 (by decide) ?_
      refine r_junk [true, true, true, true, true, false, false] (ls2 := [.ref 0, .int x1, .int x2, .int x3, .int x4, gs_J, gs_J]) rfl ?_
      exact T_X11_bookIsOff_48 hK hq13  hD
set_option maxRecDepth 20000 in
theorem TL_X11_bookIsOff_13  (hK : KC p R s m args meth c ad g tyc RX11 cX11_bookIsOff 7 (some .int) 3) {r : Int32} {μ2 : gs_M}   : ∀ (n : Nat) (x1 : Int32) (x2 : Int32) (x3 : Int32) (x4 : Int32) (μ : gs_M), L_X11_bookIsOff_13  n x1 x2 x3 x4 μ = some (r, μ2) → WJ p l e R s m args below meth c 0 0 (MQ below (gs_Q ad g tyc (some (.int r)) μ2) args s 0 0 (gs_A ad)) ad g tyc 7 13 [.ref 0, .int x1, .int x2, .int x3, .int x4, gs_J, gs_J] [] μ := by
  intro n
  induction n with
  | zero => intro x1 x2 x3 x4 μ  hD; cases hD
  | succ n ih => intro x1 x2 x3 x4 μ  hD; exact To_X11_bookIsOff_13 hK  ih  hD
set_option maxRecDepth 20000 in
theorem C_X11_bookIsOff  {x1 : Int32} {μ : gs_M} {r : Int32} {μ2 : gs_M}  (hD : D_X11_bookIsOff x1 μ = some (r, μ2)) : CALL yX11_bookIsOff cX11_bookIsOff 7 (some .int) 3 [.ref 0, .int x1] μ (some (.int r)) μ2 := by
  unfold D_X11_bookIsOff at hD
  refine gs_enter mf_X11_bookIsOff (Nat.le_of_ble_eq_true rfl) (ls := [.ref 0, .int x1, gs_J, gs_J, gs_J, gs_J, gs_J]) rfl (fun p l e R s m args below meth c ad g tyc hK => ?_)
  have hK : KC p R s m args meth c ad g tyc RX11 cX11_bookIsOff 7 (some .int) 3 := hK
  refine r_aload_n hK d_X11_bookIsOff_0 rfl rfl ?_
  refine r_getR hK d_X11_bookIsOff_1 fl_RX11_66_10 rfl kd_0 ?_
  refine r_ref (b := 26) R0_0_8 ?_
  obtain ⟨v3, u2, e1, hD⟩ := bd_e hD
  refine r_callV (As := []) (st := []) (stk2 := [.int v3]) hK (C_X10_lean kd_26 e1) d_X11_bookIsOff_4 mf_X10_lean ml_RX11_256 im_X10_lean rfl se_9_RX10_X10_lean kd_26 rfl (Nat.le_of_ble_eq_true rfl) (by decide) ⟨Nat.zero_le _, Nat.zero_le _⟩ rfl rfl ?_
  refine r_istore_n hK d_X11_bookIsOff_7 rfl (by decide) (ls2 := [.ref 0, .int x1, .int v3, gs_J, gs_J, gs_J, gs_J]) rfl ?_
  refine r_iconst hK d_X11_bookIsOff_8 ci_0 ?_
  refine r_istore_n hK d_X11_bookIsOff_9 rfl (by decide) (ls2 := [.ref 0, .int x1, .int v3, .int (0 : Int32), gs_J, gs_J, gs_J]) rfl ?_
  refine r_iconst hK d_X11_bookIsOff_10 ci_0 ?_
  refine r_istore hK d_X11_bookIsOff_11 (by decide) (ls2 := [.ref 0, .int x1, .int v3, .int (0 : Int32), .int (0 : Int32), gs_J, gs_J]) rfl ?_
  exact TL_X11_bookIsOff_13 hK  _ _ _ _ _ _  hD
end S_X11_bookIsOff
theorem d_X11_bestTimes_0 : gd cX11_bestTimes 0 (.iconst 0) 1 1 := ⟨by decide +kernel, rfl⟩
theorem d_X11_bestTimes_1 : gd cX11_bestTimes 1 (.istore_n 1) 1 2 := ⟨by decide +kernel, rfl⟩
theorem d_X11_bestTimes_2 : gd cX11_bestTimes 2 (.aload_n 0) 1 3 := ⟨by decide +kernel, rfl⟩
theorem d_X11_bestTimes_3 : gd cX11_bestTimes 3 (.iconst 0) 1 4 := ⟨by decide +kernel, rfl⟩
theorem d_X11_bestTimes_4 : gd cX11_bestTimes 4 (.invokevirtual 370) 3 7 := ⟨by decide +kernel, rfl⟩
theorem d_X11_bestTimes_7 : gd cX11_bestTimes 7 (.istore_n 2) 1 8 := ⟨by decide +kernel, rfl⟩
theorem d_X11_bestTimes_8 : gd cX11_bestTimes 8 (.iconst 1) 1 9 := ⟨by decide +kernel, rfl⟩
theorem d_X11_bestTimes_9 : gd cX11_bestTimes 9 (.istore_n 3) 1 10 := ⟨by decide +kernel, rfl⟩
theorem d_X11_bestTimes_10 : gd cX11_bestTimes 10 (.iload_n 3) 1 11 := ⟨by decide +kernel, rfl⟩
theorem d_X11_bestTimes_11 : gd cX11_bestTimes 11 (.bipush 99) 2 13 := ⟨by decide +kernel, rfl⟩
theorem d_X11_bestTimes_13 : gd cX11_bestTimes 13 (.if_icmp .gt 27) 3 16 := ⟨by decide +kernel, rfl⟩
theorem d_X11_bestTimes_16 : gd cX11_bestTimes 16 (.aload_n 0) 1 17 := ⟨by decide +kernel, rfl⟩
theorem d_X11_bestTimes_17 : gd cX11_bestTimes 17 (.iload_n 3) 1 18 := ⟨by decide +kernel, rfl⟩
theorem d_X11_bestTimes_18 : gd cX11_bestTimes 18 (.invokevirtual 370) 3 21 := ⟨by decide +kernel, rfl⟩
theorem d_X11_bestTimes_21 : gd cX11_bestTimes 21 (.istore 4) 2 23 := ⟨by decide +kernel, rfl⟩
theorem d_X11_bestTimes_23 : gd cX11_bestTimes 23 (.iload 4) 2 25 := ⟨by decide +kernel, rfl⟩
theorem d_X11_bestTimes_25 : gd cX11_bestTimes 25 (.iload_n 2) 1 26 := ⟨by decide +kernel, rfl⟩
theorem d_X11_bestTimes_26 : gd cX11_bestTimes 26 (.if_icmp .ge 8) 3 29 := ⟨by decide +kernel, rfl⟩
theorem d_X11_bestTimes_29 : gd cX11_bestTimes 29 (.iload_n 3) 1 30 := ⟨by decide +kernel, rfl⟩
theorem d_X11_bestTimes_30 : gd cX11_bestTimes 30 (.istore_n 1) 1 31 := ⟨by decide +kernel, rfl⟩
theorem d_X11_bestTimes_31 : gd cX11_bestTimes 31 (.iload 4) 2 33 := ⟨by decide +kernel, rfl⟩
theorem d_X11_bestTimes_33 : gd cX11_bestTimes 33 (.istore_n 2) 1 34 := ⟨by decide +kernel, rfl⟩
theorem d_X11_bestTimes_34 : gd cX11_bestTimes 34 (.iinc 3 1) 3 37 := ⟨by decide +kernel, rfl⟩
theorem d_X11_bestTimes_37 : gd cX11_bestTimes 37 (.goto (-27)) 3 40 := ⟨by decide +kernel, rfl⟩
theorem d_X11_bestTimes_40 : gd cX11_bestTimes 40 (.iload_n 1) 1 41 := ⟨by decide +kernel, rfl⟩
theorem d_X11_bestTimes_41 : gd cX11_bestTimes 41 .ireturn 1 42 := ⟨by decide +kernel, rfl⟩
def Bo_X11_bestTimes_10 (q10 : Int32 → Int32 → Int32 → gs_M → Option (Int32 × gs_M)) (x1 : Int32) (x2 : Int32) (x3 : Int32) (μ : gs_M) : Option (Int32 × gs_M) :=
  if (99 : Int32) < x3 then (some (x1, μ)) else (bd (D_X11_bookIsOff x3 μ) (fun v4 u3 => if x2 ≤ v4 then (q10 x1 x2 (x3 + (1 : Int32)) u3) else (q10 x3 v4 (x3 + (1 : Int32)) u3)))
def L_X11_bestTimes_10  : Nat → Int32 → Int32 → Int32 → gs_M → Option (Int32 × gs_M)
  | 0 => fun _ _ _ _ => none
  | n + 1 => fun x1 x2 x3 μ => Bo_X11_bestTimes_10  (L_X11_bestTimes_10  n) x1 x2 x3 μ
def D_X11_bestTimes  (μ : gs_M) : Option (Int32 × gs_M) :=
  bd (D_X11_bookIsOff (0 : Int32) μ) (fun v3 u2 => L_X11_bestTimes_10 4096 (0 : Int32) v3 (1 : Int32) u2)
section S_X11_bestTimes
variable {p : Program} {l : Launch} {e : Env} {R : Room} {s : State} {m : MethodId} {args : Array Value} {below : List Frame} {meth : Method} {c : Code} {ad : Nat → Nat} {g : va_G} {tyc : Nat → ClassId}
set_option maxRecDepth 20000 in
theorem To_X11_bestTimes_10  (hK : KC p R s m args meth c ad g tyc RX11 cX11_bestTimes 5 (some .int) 4) {r : Int32} {μ2 : gs_M} {q10 : Int32 → Int32 → Int32 → gs_M → Option (Int32 × gs_M)} (hq10 : ∀ (x1 : Int32) (x2 : Int32) (x3 : Int32) (μ : gs_M), q10 x1 x2 x3 μ = some (r, μ2) → WJ p l e R s m args below meth c 0 0 (MQ below (gs_Q ad g tyc (some (.int r)) μ2) args s 0 0 (gs_A ad)) ad g tyc 5 10 [.ref 0, .int x1, .int x2, .int x3, gs_J] [] μ) {x1 : Int32} {x2 : Int32} {x3 : Int32} {μ : gs_M}  (hD : Bo_X11_bestTimes_10 q10 x1 x2 x3 μ = some (r, μ2)) : WJ p l e R s m args below meth c 0 0 (MQ below (gs_Q ad g tyc (some (.int r)) μ2) args s 0 0 (gs_A ad)) ad g tyc 5 10 [.ref 0, .int x1, .int x2, .int x3, gs_J] [] μ := by
  unfold Bo_X11_bestTimes_10 at hD
  refine r_iload_n hK d_X11_bestTimes_10 rfl rfl ?_
  refine r_bipush hK d_X11_bestTimes_11 cb_99 ?_
  refine r_icmp_gt (tgt := 40) hK d_X11_bestTimes_13 (by decide) (fun h1 => ?_) (fun h1 => ?_)
  · have hD := if_t hD h1
    refine r_iload_n hK d_X11_bestTimes_40 rfl rfl ?_
    cases hD
    exact r_iret hK d_X11_bestTimes_41
  · have hD := if_f hD h1
    refine r_aload_n hK d_X11_bestTimes_16 rfl rfl ?_
    refine r_iload_n hK d_X11_bestTimes_17 rfl rfl ?_
    obtain ⟨v4, u3, e2, hD⟩ := bd_e hD
    refine r_callV (As := [.int x3]) (st := []) (stk2 := [.int v4]) hK (C_X11_bookIsOff  e2) d_X11_bestTimes_18 mf_X11_bookIsOff ml_RX11_370 im_X11_bookIsOff rfl se_10_RX11_X11_bookIsOff kd_0 rfl (Nat.le_of_ble_eq_true rfl) (by decide) ⟨Nat.zero_le _, Nat.zero_le _⟩ rfl rfl ?_
    refine r_istore hK d_X11_bestTimes_21 (by decide) (ls2 := [.ref 0, .int x1, .int x2, .int x3, .int v4]) rfl ?_
    refine r_iload hK d_X11_bestTimes_23 rfl ?_
    refine r_iload_n hK d_X11_bestTimes_25 rfl rfl ?_
    refine r_icmp_ge (tgt := 34) hK d_X11_bestTimes_26 (by decide) (fun h5 => ?_) (fun h5 => ?_)
    · have hD := if_t hD h5
      refine r_iinc hK d_X11_bestTimes_34 rfl (v := x3 + (1 : Int32)) (by rw [ci_1]) (by decide) (ls2 := [.ref 0, .int x1, .int x2, .int (x3 + (1 : Int32)), .int v4]) rfl ?_
      refine r_goto (tgt := 10) hK d_X11_bestTimes_37 (by decide) ?_
      refine r_junk [true, true, true, true, false] (ls2 := [.ref 0, .int x1, .int x2, .int (x3 + (1 : Int32)), gs_J]) rfl ?_
      exact hq10 _ _ _ _  hD
    · have hD := if_f hD h5
      refine r_iload_n hK d_X11_bestTimes_29 rfl rfl ?_
      refine r_istore_n hK d_X11_bestTimes_30 rfl (by decide) (ls2 := [.ref 0, .int x3, .int x2, .int x3, .int v4]) rfl ?_
      refine r_iload hK d_X11_bestTimes_31 rfl ?_
      refine r_istore_n hK d_X11_bestTimes_33 rfl (by decide) (ls2 := [.ref 0, .int x3, .int v4, .int x3, .int v4]) rfl ?_
      refine r_iinc hK d_X11_bestTimes_34 rfl (v := x3 + (1 : Int32)) (by rw [ci_1]) (by decide) (ls2 := [.ref 0, .int x3, .int v4, .int (x3 + (1 : Int32)), .int v4]) rfl ?_
      refine r_goto (tgt := 10) hK d_X11_bestTimes_37 (by decide) ?_
      refine r_junk [true, true, true, true, false] (ls2 := [.ref 0, .int x3, .int v4, .int (x3 + (1 : Int32)), gs_J]) rfl ?_
      exact hq10 _ _ _ _  hD
set_option maxRecDepth 20000 in
theorem TL_X11_bestTimes_10  (hK : KC p R s m args meth c ad g tyc RX11 cX11_bestTimes 5 (some .int) 4) {r : Int32} {μ2 : gs_M}   : ∀ (n : Nat) (x1 : Int32) (x2 : Int32) (x3 : Int32) (μ : gs_M), L_X11_bestTimes_10  n x1 x2 x3 μ = some (r, μ2) → WJ p l e R s m args below meth c 0 0 (MQ below (gs_Q ad g tyc (some (.int r)) μ2) args s 0 0 (gs_A ad)) ad g tyc 5 10 [.ref 0, .int x1, .int x2, .int x3, gs_J] [] μ := by
  intro n
  induction n with
  | zero => intro x1 x2 x3 μ  hD; cases hD
  | succ n ih => intro x1 x2 x3 μ  hD; exact To_X11_bestTimes_10 hK  ih  hD
set_option maxRecDepth 20000 in
theorem C_X11_bestTimes   {μ : gs_M} {r : Int32} {μ2 : gs_M}  (hD : D_X11_bestTimes  μ = some (r, μ2)) : CALL yX11_bestTimes cX11_bestTimes 5 (some .int) 4 [.ref 0] μ (some (.int r)) μ2 := by
  unfold D_X11_bestTimes at hD
  refine gs_enter mf_X11_bestTimes (Nat.le_of_ble_eq_true rfl) (ls := [.ref 0, gs_J, gs_J, gs_J, gs_J]) rfl (fun p l e R s m args below meth c ad g tyc hK => ?_)
  have hK : KC p R s m args meth c ad g tyc RX11 cX11_bestTimes 5 (some .int) 4 := hK
  refine r_iconst hK d_X11_bestTimes_0 ci_0 ?_
  refine r_istore_n hK d_X11_bestTimes_1 rfl (by decide) (ls2 := [.ref 0, .int (0 : Int32), gs_J, gs_J, gs_J]) rfl ?_
  refine r_aload_n hK d_X11_bestTimes_2 rfl rfl ?_
  refine r_iconst hK d_X11_bestTimes_3 ci_0 ?_
  obtain ⟨v3, u2, e1, hD⟩ := bd_e hD
  refine r_callV (As := [.int (0 : Int32)]) (st := []) (stk2 := [.int v3]) hK (C_X11_bookIsOff  e1) d_X11_bestTimes_4 mf_X11_bookIsOff ml_RX11_370 im_X11_bookIsOff rfl se_10_RX11_X11_bookIsOff kd_0 rfl (Nat.le_of_ble_eq_true rfl) (by decide) ⟨Nat.zero_le _, Nat.zero_le _⟩ rfl rfl ?_
  refine r_istore_n hK d_X11_bestTimes_7 rfl (by decide) (ls2 := [.ref 0, .int (0 : Int32), .int v3, gs_J, gs_J]) rfl ?_
  refine r_iconst hK d_X11_bestTimes_8 ci_1 ?_
  refine r_istore_n hK d_X11_bestTimes_9 rfl (by decide) (ls2 := [.ref 0, .int (0 : Int32), .int v3, .int (1 : Int32), gs_J]) rfl ?_
  exact TL_X11_bestTimes_10 hK  _ _ _ _ _  hD
end S_X11_bestTimes
theorem d_X11_book_0 : gd cX11_book 0 (.aload_n 0) 1 1 := ⟨by decide +kernel, rfl⟩
theorem d_X11_book_1 : gd cX11_book 1 (.invokevirtual 206) 3 4 := ⟨by decide +kernel, rfl⟩
theorem d_X11_book_4 : gd cX11_book 4 (.ifCond .eq 13) 3 7 := ⟨by decide +kernel, rfl⟩
theorem d_X11_book_7 : gd cX11_book 7 (.iload_n 1) 1 8 := ⟨by decide +kernel, rfl⟩
theorem d_X11_book_8 : gd cX11_book 8 (.iconst (-1)) 1 9 := ⟨by decide +kernel, rfl⟩
theorem d_X11_book_9 : gd cX11_book 9 (.bipush 99) 2 11 := ⟨by decide +kernel, rfl⟩
theorem d_X11_book_11 : gd cX11_book 11 (.invokestatic 123) 3 14 := ⟨by decide +kernel, rfl⟩
theorem d_X11_book_14 : gd cX11_book 14 (.ifCond .ne 5) 3 17 := ⟨by decide +kernel, rfl⟩
theorem d_X11_book_17 : gd cX11_book 17 (.iconst (-1)) 1 18 := ⟨by decide +kernel, rfl⟩
theorem d_X11_book_18 : gd cX11_book 18 .ireturn 1 19 := ⟨by decide +kernel, rfl⟩
theorem d_X11_book_19 : gd cX11_book 19 (.iconst 0) 1 20 := ⟨by decide +kernel, rfl⟩
theorem d_X11_book_20 : gd cX11_book 20 (.istore_n 2) 1 21 := ⟨by decide +kernel, rfl⟩
theorem d_X11_book_21 : gd cX11_book 21 (.iload_n 2) 1 22 := ⟨by decide +kernel, rfl⟩
theorem d_X11_book_22 : gd cX11_book 22 (.bipush 8) 2 24 := ⟨by decide +kernel, rfl⟩
theorem d_X11_book_24 : gd cX11_book 24 (.if_icmp .ge 32) 3 27 := ⟨by decide +kernel, rfl⟩
theorem d_X11_book_27 : gd cX11_book 27 (.aload_n 0) 1 28 := ⟨by decide +kernel, rfl⟩
theorem d_X11_book_28 : gd cX11_book 28 (.iconst 5) 1 29 := ⟨by decide +kernel, rfl⟩
theorem d_X11_book_29 : gd cX11_book 29 (.iload_n 2) 1 30 := ⟨by decide +kernel, rfl⟩
theorem d_X11_book_30 : gd cX11_book 30 (.iconst 1) 1 31 := ⟨by decide +kernel, rfl⟩
theorem d_X11_book_31 : gd cX11_book 31 .iadd 1 32 := ⟨by decide +kernel, rfl⟩
theorem d_X11_book_32 : gd cX11_book 32 .imul 1 33 := ⟨by decide +kernel, rfl⟩
theorem d_X11_book_33 : gd cX11_book 33 (.invokevirtual 269) 3 36 := ⟨by decide +kernel, rfl⟩
theorem d_X11_book_36 : gd cX11_book 36 .pop 1 37 := ⟨by decide +kernel, rfl⟩
theorem d_X11_book_37 : gd cX11_book 37 (.aload_n 0) 1 38 := ⟨by decide +kernel, rfl⟩
theorem d_X11_book_38 : gd cX11_book 38 (.getfield 104) 3 41 := ⟨by decide +kernel, rfl⟩
theorem d_X11_book_41 : gd cX11_book 41 (.iload_n 2) 1 42 := ⟨by decide +kernel, rfl⟩
theorem d_X11_book_42 : gd cX11_book 42 (.aload_n 0) 1 43 := ⟨by decide +kernel, rfl⟩
theorem d_X11_book_43 : gd cX11_book 43 (.getfield 76) 3 46 := ⟨by decide +kernel, rfl⟩
theorem d_X11_book_46 : gd cX11_book 46 (.invokevirtual 256) 3 49 := ⟨by decide +kernel, rfl⟩
theorem d_X11_book_49 : gd cX11_book 49 .iastore 1 50 := ⟨by decide +kernel, rfl⟩
theorem d_X11_book_50 : gd cX11_book 50 (.iinc 2 1) 3 53 := ⟨by decide +kernel, rfl⟩
theorem d_X11_book_53 : gd cX11_book 53 (.goto (-32)) 3 56 := ⟨by decide +kernel, rfl⟩
theorem d_X11_book_56 : gd cX11_book 56 (.iload_n 1) 1 57 := ⟨by decide +kernel, rfl⟩
theorem d_X11_book_57 : gd cX11_book 57 (.iconst (-1)) 1 58 := ⟨by decide +kernel, rfl⟩
theorem d_X11_book_58 : gd cX11_book 58 (.if_icmp .ne 10) 3 61 := ⟨by decide +kernel, rfl⟩
theorem d_X11_book_61 : gd cX11_book 61 (.aload_n 0) 1 62 := ⟨by decide +kernel, rfl⟩
theorem d_X11_book_62 : gd cX11_book 62 (.invokevirtual 367) 3 65 := ⟨by decide +kernel, rfl⟩
theorem d_X11_book_65 : gd cX11_book 65 (.goto 8) 3 68 := ⟨by decide +kernel, rfl⟩
theorem d_X11_book_68 : gd cX11_book 68 (.aload_n 0) 1 69 := ⟨by decide +kernel, rfl⟩
theorem d_X11_book_69 : gd cX11_book 69 (.iload_n 1) 1 70 := ⟨by decide +kernel, rfl⟩
theorem d_X11_book_70 : gd cX11_book 70 (.invokevirtual 370) 3 73 := ⟨by decide +kernel, rfl⟩
theorem d_X11_book_73 : gd cX11_book 73 .ireturn 1 74 := ⟨by decide +kernel, rfl⟩
def Bo_X11_book_21 (q21 : Int32 → Int32 → gs_M → Option (Int32 × gs_M)) (x1 : Int32) (x2 : Int32) (μ : gs_M) : Option (Int32 × gs_M) :=
  if (8 : Int32) ≤ x2 then (if x1 = (-1 : Int32) then (bd (D_X11_bestTimes μ) (fun v8 u7 => some (v8, u7))) else (bd (D_X11_bookIsOff x1 μ) (fun v5 u4 => some (v5, u4)))) else (bd (D_X11_tryRoll ((5 : Int32) * (x2 + (1 : Int32))) μ) (fun v11 u10 => bd (D_X10_lean 56 u10) (fun v14 u13 => ck (inb x2 8) (lt1 (sI u13 75 (Int32.toNatClampNeg x2) v14) (fun u16 => q21 x1 (x2 + (1 : Int32)) u16)))))
def L_X11_book_21  : Nat → Int32 → Int32 → gs_M → Option (Int32 × gs_M)
  | 0 => fun _ _ _ => none
  | n + 1 => fun x1 x2 μ => Bo_X11_book_21  (L_X11_book_21  n) x1 x2 μ
def D_X11_book (x1 : Int32) (μ : gs_M) : Option (Int32 × gs_M) :=
  bd (D_X11_isReady μ) (fun v3 u2 => if v3 = 0 then (some ((-1 : Int32), u2)) else (bd (D_X11_within x1 (-1 : Int32) (99 : Int32) u2) (fun v7 u6 => if v7 = 0 then (some ((-1 : Int32), u6)) else (L_X11_book_21 4096 x1 (0 : Int32) u6))))
section S_X11_book
variable {p : Program} {l : Launch} {e : Env} {R : Room} {s : State} {m : MethodId} {args : Array Value} {below : List Frame} {meth : Method} {c : Code} {ad : Nat → Nat} {g : va_G} {tyc : Nat → ClassId}
set_option maxRecDepth 20000 in
theorem To_X11_book_21  (hK : KC p R s m args meth c ad g tyc RX11 cX11_book 3 (some .int) 6) {r : Int32} {μ2 : gs_M} {q21 : Int32 → Int32 → gs_M → Option (Int32 × gs_M)} (hq21 : ∀ (x1 : Int32) (x2 : Int32) (μ : gs_M), q21 x1 x2 μ = some (r, μ2) → WJ p l e R s m args below meth c 0 0 (MQ below (gs_Q ad g tyc (some (.int r)) μ2) args s 0 0 (gs_A ad)) ad g tyc 3 21 [.ref 0, .int x1, .int x2] [] μ) {x1 : Int32} {x2 : Int32} {μ : gs_M}  (hD : Bo_X11_book_21 q21 x1 x2 μ = some (r, μ2)) : WJ p l e R s m args below meth c 0 0 (MQ below (gs_Q ad g tyc (some (.int r)) μ2) args s 0 0 (gs_A ad)) ad g tyc 3 21 [.ref 0, .int x1, .int x2] [] μ := by
  unfold Bo_X11_book_21 at hD
  refine r_iload_n hK d_X11_book_21 rfl rfl ?_
  refine r_bipush hK d_X11_book_22 cb_8 ?_
  refine r_icmp_ge (tgt := 56) hK d_X11_book_24 (by decide) (fun h1 => ?_) (fun h1 => ?_)
  · have hD := if_t hD h1
    refine r_iload_n hK d_X11_book_56 rfl rfl ?_
    refine r_iconst hK d_X11_book_57 ci_m1 ?_
    refine r_icmp_ne (tgt := 68) hK d_X11_book_58 (by decide) (fun h2 => ?_) (fun h2 => ?_)
    · have hD := if_f hD h2
      refine r_aload_n hK d_X11_book_68 rfl rfl ?_
      refine r_iload_n hK d_X11_book_69 rfl rfl ?_
      obtain ⟨v5, u4, e3, hD⟩ := bd_e hD
      refine r_callV (As := [.int x1]) (st := []) (stk2 := [.int v5]) hK (C_X11_bookIsOff  e3) d_X11_book_70 mf_X11_bookIsOff ml_RX11_370 im_X11_bookIsOff rfl se_10_RX11_X11_bookIsOff kd_0 rfl (Nat.le_of_ble_eq_true rfl) (by decide) ⟨Nat.zero_le _, Nat.zero_le _⟩ rfl rfl ?_
      cases hD
      exact r_iret hK d_X11_book_73
    · have hD := if_t hD h2
      refine r_aload_n hK d_X11_book_61 rfl rfl ?_
      obtain ⟨v8, u7, e6, hD⟩ := bd_e hD
      refine r_callV (As := []) (st := []) (stk2 := [.int v8]) hK (C_X11_bestTimes  e6) d_X11_book_62 mf_X11_bestTimes ml_RX11_367 im_X11_bestTimes rfl se_10_RX11_X11_bestTimes kd_0 rfl (Nat.le_of_ble_eq_true rfl) (by decide) ⟨Nat.zero_le _, Nat.zero_le _⟩ rfl rfl ?_
      refine r_goto (tgt := 73) hK d_X11_book_65 (by decide) ?_
      cases hD
      exact r_iret hK d_X11_book_73
  · have hD := if_f hD h1
    refine r_aload_n hK d_X11_book_27 rfl rfl ?_
    refine r_iconst hK d_X11_book_28 ci_5 ?_
    refine r_iload_n hK d_X11_book_29 rfl rfl ?_
    refine r_iconst hK d_X11_book_30 ci_1 ?_
    refine r_iadd hK d_X11_book_31 ?_
    refine r_imul hK d_X11_book_32 ?_
    obtain ⟨v11, u10, e9, hD⟩ := bd_e hD
    refine r_callV (As := [.int ((5 : Int32) * (x2 + (1 : Int32)))]) (st := []) (stk2 := [.int v11]) hK (C_X11_tryRoll  e9) d_X11_book_33 mf_X11_tryRoll ml_RX11_269 im_X11_tryRoll rfl se_10_RX11_X11_tryRoll kd_0 rfl (Nat.le_of_ble_eq_true rfl) (by decide) ⟨Nat.zero_le _, Nat.zero_le _⟩ rfl rfl ?_
    refine r_pop hK d_X11_book_36 rfl ?_
    refine r_aload_n hK d_X11_book_37 rfl rfl ?_
    refine r_getR hK d_X11_book_38 fl_RX11_104_10 rfl kd_0 ?_
    refine r_ref (b := 75) R0_0_17 ?_
    refine r_iload_n hK d_X11_book_41 rfl rfl ?_
    refine r_aload_n hK d_X11_book_42 rfl rfl ?_
    refine r_getR hK d_X11_book_43 fl_RX11_76_10 rfl kd_0 ?_
    refine r_ref (b := 56) R0_0_11 ?_
    obtain ⟨v14, u13, e12, hD⟩ := bd_e hD
    refine r_callV (As := []) (st := [.int x2, .ref 75]) (stk2 := [.int v14, .int x2, .ref 75]) hK (C_X10_lean kd_56 e12) d_X11_book_46 mf_X10_lean ml_RX11_256 im_X10_lean rfl se_9_RX10_X10_lean kd_56 rfl (Nat.le_of_ble_eq_true rfl) (by decide) ⟨Nat.zero_le _, Nat.zero_le _⟩ rfl rfl ?_
    obtain ⟨h15, hD⟩ := ck_e hD
    refine r_iast hK d_X11_book_49 kd_75 ln_75 (inb_in h15) ?_
    refine r_ltm hD (fun u16 hD => ?_)
    refine r_iinc hK d_X11_book_50 rfl (v := x2 + (1 : Int32)) (by rw [ci_1]) (by decide) (ls2 := [.ref 0, .int x1, .int (x2 + (1 : Int32))]) rfl ?_
    refine r_goto (tgt := 21) hK d_X11_book_53 (by decide) ?_
    exact hq21 _ _ _  hD
set_option maxRecDepth 20000 in
theorem TL_X11_book_21  (hK : KC p R s m args meth c ad g tyc RX11 cX11_book 3 (some .int) 6) {r : Int32} {μ2 : gs_M}   : ∀ (n : Nat) (x1 : Int32) (x2 : Int32) (μ : gs_M), L_X11_book_21  n x1 x2 μ = some (r, μ2) → WJ p l e R s m args below meth c 0 0 (MQ below (gs_Q ad g tyc (some (.int r)) μ2) args s 0 0 (gs_A ad)) ad g tyc 3 21 [.ref 0, .int x1, .int x2] [] μ := by
  intro n
  induction n with
  | zero => intro x1 x2 μ  hD; cases hD
  | succ n ih => intro x1 x2 μ  hD; exact To_X11_book_21 hK  ih  hD
set_option maxRecDepth 20000 in
theorem C_X11_book  {x1 : Int32} {μ : gs_M} {r : Int32} {μ2 : gs_M}  (hD : D_X11_book x1 μ = some (r, μ2)) : CALL yX11_book cX11_book 3 (some .int) 6 [.ref 0, .int x1] μ (some (.int r)) μ2 := by
  unfold D_X11_book at hD
  refine gs_enter mf_X11_book (Nat.le_of_ble_eq_true rfl) (ls := [.ref 0, .int x1, gs_J]) rfl (fun p l e R s m args below meth c ad g tyc hK => ?_)
  have hK : KC p R s m args meth c ad g tyc RX11 cX11_book 3 (some .int) 6 := hK
  refine r_aload_n hK d_X11_book_0 rfl rfl ?_
  obtain ⟨v3, u2, e1, hD⟩ := bd_e hD
  refine r_callV (As := []) (st := []) (stk2 := [.int v3]) hK (C_X11_isReady  e1) d_X11_book_1 mf_X11_isReady ml_RX11_206 im_X11_isReady rfl se_10_RX11_X11_isReady kd_0 rfl (Nat.le_of_ble_eq_true rfl) (by decide) ⟨Nat.zero_le _, Nat.zero_le _⟩ rfl rfl ?_
  refine r_if_eq (tgt := 17) hK d_X11_book_4 (by decide) (fun h4 => ?_) (fun h4 => ?_)
  · have hD := if_t hD h4
    refine r_iconst hK d_X11_book_17 ci_m1 ?_
    cases hD
    exact r_iret hK d_X11_book_18
  · have hD := if_f hD h4
    refine r_iload_n hK d_X11_book_7 rfl rfl ?_
    refine r_iconst hK d_X11_book_8 ci_m1 ?_
    refine r_bipush hK d_X11_book_9 cb_99 ?_
    obtain ⟨v7, u6, e5, hD⟩ := bd_e hD
    refine r_callS (As := [.int x1, .int (-1 : Int32), .int (99 : Int32)]) (st := []) (stk2 := [.int v7]) hK (C_X11_within  e5) d_X11_book_11 mf_X11_within ml_RX11_123 ss_X11_within rfl (Nat.le_of_ble_eq_true rfl) (by decide) ⟨Nat.zero_le _, Nat.zero_le _⟩ rfl rfl ?_
    refine r_if_ne (tgt := 19) hK d_X11_book_14 (by decide) (fun h8 => ?_) (fun h8 => ?_)
    · have hD := if_f hD h8
      refine r_iconst hK d_X11_book_19 ci_0 ?_
      refine r_istore_n hK d_X11_book_20 rfl (by decide) (ls2 := [.ref 0, .int x1, .int (0 : Int32)]) rfl ?_
      exact TL_X11_book_21 hK  _ _ _ _  hD
    · have hD := if_t hD h8
      refine r_iconst hK d_X11_book_17 ci_m1 ?_
      cases hD
      exact r_iret hK d_X11_book_18
end S_X11_book
theorem d_X11_turnBallast_0 : gd cX11_turnBallast 0 (.aload_n 0) 1 1 := ⟨by decide +kernel, rfl⟩
theorem d_X11_turnBallast_1 : gd cX11_turnBallast 1 (.getfield 50) 3 4 := ⟨by decide +kernel, rfl⟩
theorem d_X11_turnBallast_4 : gd cX11_turnBallast 4 (.getfield 383) 3 7 := ⟨by decide +kernel, rfl⟩
theorem d_X11_turnBallast_7 : gd cX11_turnBallast 7 (.astore_n 3) 1 8 := ⟨by decide +kernel, rfl⟩
theorem d_X11_turnBallast_8 : gd cX11_turnBallast 8 (.aload_n 3) 1 9 := ⟨by decide +kernel, rfl⟩
theorem d_X11_turnBallast_9 : gd cX11_turnBallast 9 (.iconst 0) 1 10 := ⟨by decide +kernel, rfl⟩
theorem d_X11_turnBallast_10 : gd cX11_turnBallast 10 (.aload_n 0) 1 11 := ⟨by decide +kernel, rfl⟩
theorem d_X11_turnBallast_11 : gd cX11_turnBallast 11 (.getfield 76) 3 14 := ⟨by decide +kernel, rfl⟩
theorem d_X11_turnBallast_14 : gd cX11_turnBallast 14 (.invokevirtual 256) 3 17 := ⟨by decide +kernel, rfl⟩
theorem d_X11_turnBallast_17 : gd cX11_turnBallast 17 .iastore 1 18 := ⟨by decide +kernel, rfl⟩
theorem d_X11_turnBallast_18 : gd cX11_turnBallast 18 (.aload_n 3) 1 19 := ⟨by decide +kernel, rfl⟩
theorem d_X11_turnBallast_19 : gd cX11_turnBallast 19 (.iconst 1) 1 20 := ⟨by decide +kernel, rfl⟩
theorem d_X11_turnBallast_20 : gd cX11_turnBallast 20 (.aload_n 0) 1 21 := ⟨by decide +kernel, rfl⟩
theorem d_X11_turnBallast_21 : gd cX11_turnBallast 21 (.getfield 76) 3 24 := ⟨by decide +kernel, rfl⟩
theorem d_X11_turnBallast_24 : gd cX11_turnBallast 24 (.getfield 216) 3 27 := ⟨by decide +kernel, rfl⟩
theorem d_X11_turnBallast_27 : gd cX11_turnBallast 27 .iastore 1 28 := ⟨by decide +kernel, rfl⟩
theorem d_X11_turnBallast_28 : gd cX11_turnBallast 28 (.aload_n 3) 1 29 := ⟨by decide +kernel, rfl⟩
theorem d_X11_turnBallast_29 : gd cX11_turnBallast 29 (.iconst 2) 1 30 := ⟨by decide +kernel, rfl⟩
theorem d_X11_turnBallast_30 : gd cX11_turnBallast 30 (.aload_n 0) 1 31 := ⟨by decide +kernel, rfl⟩
theorem d_X11_turnBallast_31 : gd cX11_turnBallast 31 (.getfield 76) 3 34 := ⟨by decide +kernel, rfl⟩
theorem d_X11_turnBallast_34 : gd cX11_turnBallast 34 (.invokevirtual 386) 3 37 := ⟨by decide +kernel, rfl⟩
theorem d_X11_turnBallast_37 : gd cX11_turnBallast 37 .iastore 1 38 := ⟨by decide +kernel, rfl⟩
theorem d_X11_turnBallast_38 : gd cX11_turnBallast 38 (.aload_n 3) 1 39 := ⟨by decide +kernel, rfl⟩
theorem d_X11_turnBallast_39 : gd cX11_turnBallast 39 (.iconst 3) 1 40 := ⟨by decide +kernel, rfl⟩
theorem d_X11_turnBallast_40 : gd cX11_turnBallast 40 (.iload_n 2) 1 41 := ⟨by decide +kernel, rfl⟩
theorem d_X11_turnBallast_41 : gd cX11_turnBallast 41 .iastore 1 42 := ⟨by decide +kernel, rfl⟩
theorem d_X11_turnBallast_42 : gd cX11_turnBallast 42 (.aload_n 3) 1 43 := ⟨by decide +kernel, rfl⟩
theorem d_X11_turnBallast_43 : gd cX11_turnBallast 43 (.iconst 4) 1 44 := ⟨by decide +kernel, rfl⟩
theorem d_X11_turnBallast_44 : gd cX11_turnBallast 44 (.aload_n 0) 1 45 := ⟨by decide +kernel, rfl⟩
theorem d_X11_turnBallast_45 : gd cX11_turnBallast 45 (.getfield 57) 3 48 := ⟨by decide +kernel, rfl⟩
theorem d_X11_turnBallast_48 : gd cX11_turnBallast 48 (.getfield 160) 3 51 := ⟨by decide +kernel, rfl⟩
theorem d_X11_turnBallast_51 : gd cX11_turnBallast 51 .iastore 1 52 := ⟨by decide +kernel, rfl⟩
theorem d_X11_turnBallast_52 : gd cX11_turnBallast 52 (.aload_n 3) 1 53 := ⟨by decide +kernel, rfl⟩
theorem d_X11_turnBallast_53 : gd cX11_turnBallast 53 (.iconst 5) 1 54 := ⟨by decide +kernel, rfl⟩
theorem d_X11_turnBallast_54 : gd cX11_turnBallast 54 (.aload_n 0) 1 55 := ⟨by decide +kernel, rfl⟩
theorem d_X11_turnBallast_55 : gd cX11_turnBallast 55 (.getfield 76) 3 58 := ⟨by decide +kernel, rfl⟩
theorem d_X11_turnBallast_58 : gd cX11_turnBallast 58 (.invokevirtual 266) 3 61 := ⟨by decide +kernel, rfl⟩
theorem d_X11_turnBallast_61 : gd cX11_turnBallast 61 (.bipush 100) 2 63 := ⟨by decide +kernel, rfl⟩
theorem d_X11_turnBallast_63 : gd cX11_turnBallast 63 .idiv 1 64 := ⟨by decide +kernel, rfl⟩
theorem d_X11_turnBallast_64 : gd cX11_turnBallast 64 .iastore 1 65 := ⟨by decide +kernel, rfl⟩
theorem d_X11_turnBallast_65 : gd cX11_turnBallast 65 (.aload_n 0) 1 66 := ⟨by decide +kernel, rfl⟩
theorem d_X11_turnBallast_66 : gd cX11_turnBallast 66 (.getfield 50) 3 69 := ⟨by decide +kernel, rfl⟩
theorem d_X11_turnBallast_69 : gd cX11_turnBallast 69 (.iload_n 1) 1 70 := ⟨by decide +kernel, rfl⟩
theorem d_X11_turnBallast_70 : gd cX11_turnBallast 70 (.invokevirtual 389) 3 73 := ⟨by decide +kernel, rfl⟩
theorem d_X11_turnBallast_73 : gd cX11_turnBallast 73 (.sipush 999) 3 76 := ⟨by decide +kernel, rfl⟩
theorem d_X11_turnBallast_76 : gd cX11_turnBallast 76 (.invokestatic 392) 3 79 := ⟨by decide +kernel, rfl⟩
theorem d_X11_turnBallast_79 : gd cX11_turnBallast 79 (.istore 4) 2 81 := ⟨by decide +kernel, rfl⟩
theorem d_X11_turnBallast_81 : gd cX11_turnBallast 81 (.aload_n 0) 1 82 := ⟨by decide +kernel, rfl⟩
theorem d_X11_turnBallast_82 : gd cX11_turnBallast 82 (.getfield 107) 3 85 := ⟨by decide +kernel, rfl⟩
theorem d_X11_turnBallast_85 : gd cX11_turnBallast 85 (.iconst 2) 1 86 := ⟨by decide +kernel, rfl⟩
theorem d_X11_turnBallast_86 : gd cX11_turnBallast 86 .dup2 1 87 := ⟨by decide +kernel, rfl⟩
theorem d_X11_turnBallast_87 : gd cX11_turnBallast 87 .iaload 1 88 := ⟨by decide +kernel, rfl⟩
theorem d_X11_turnBallast_88 : gd cX11_turnBallast 88 (.iload 4) 2 90 := ⟨by decide +kernel, rfl⟩
theorem d_X11_turnBallast_90 : gd cX11_turnBallast 90 (.aload_n 0) 1 91 := ⟨by decide +kernel, rfl⟩
theorem d_X11_turnBallast_91 : gd cX11_turnBallast 91 (.getfield 57) 3 94 := ⟨by decide +kernel, rfl⟩
theorem d_X11_turnBallast_94 : gd cX11_turnBallast 94 (.getfield 160) 3 97 := ⟨by decide +kernel, rfl⟩
theorem d_X11_turnBallast_97 : gd cX11_turnBallast 97 .isub 1 98 := ⟨by decide +kernel, rfl⟩
theorem d_X11_turnBallast_98 : gd cX11_turnBallast 98 (.invokestatic 286) 3 101 := ⟨by decide +kernel, rfl⟩
theorem d_X11_turnBallast_101 : gd cX11_turnBallast 101 .iadd 1 102 := ⟨by decide +kernel, rfl⟩
theorem d_X11_turnBallast_102 : gd cX11_turnBallast 102 .iastore 1 103 := ⟨by decide +kernel, rfl⟩
theorem d_X11_turnBallast_103 : gd cX11_turnBallast 103 (.aload_n 0) 1 104 := ⟨by decide +kernel, rfl⟩
theorem d_X11_turnBallast_104 : gd cX11_turnBallast 104 (.getfield 57) 3 107 := ⟨by decide +kernel, rfl⟩
theorem d_X11_turnBallast_107 : gd cX11_turnBallast 107 (.iload 4) 2 109 := ⟨by decide +kernel, rfl⟩
theorem d_X11_turnBallast_109 : gd cX11_turnBallast 109 (.putfield 160) 3 112 := ⟨by decide +kernel, rfl⟩
theorem d_X11_turnBallast_112 : gd cX11_turnBallast 112 .return_ 1 113 := ⟨by decide +kernel, rfl⟩
def D_X11_turnBallast (x1 : Int32) (x2 : Int32) (μ : gs_M) : Option (gs_M) :=
  bd (D_X10_lean 56 μ) (fun v3 u2 => ck (inb (0 : Int32) 6) (lt1 (sI u2 17 (Int32.toNatClampNeg (0 : Int32)) v3) (fun u5 => ck (inb (1 : Int32) 6) (lt1 (sI u5 17 (Int32.toNatClampNeg (1 : Int32)) (gI u5 56 3)) (fun u7 => bd (D_X10_mostShaken 56 u7) (fun v10 u9 => ck (inb (2 : Int32) 6) (lt1 (sI u9 17 (Int32.toNatClampNeg (2 : Int32)) v10) (fun u12 => ck (inb (3 : Int32) 6) (lt1 (sI u12 17 (Int32.toNatClampNeg (3 : Int32)) x2) (fun u14 => ck (inb (4 : Int32) 6) (lt1 (sI u14 17 (Int32.toNatClampNeg (4 : Int32)) (gI u14 25 1)) (fun u16 => bd (D_X10_moments 56 u16) (fun v19 u18 => ck (inb (5 : Int32) 6) (lt1 (sI u18 17 (Int32.toNatClampNeg (5 : Int32)) (v19 / (100 : Int32))) (fun u21 => bd (D_X6_worth x1 u21) (fun v24 u23 => bd (D_X11_held v24 (999 : Int32) u23) (fun v27 u26 => ck (inb (2 : Int32) 3) (lt1 (if 0 ≤ (v27 - (gI u26 25 1)) then (v27 - (gI u26 25 1)) else 0 - (v27 - (gI u26 25 1))) (fun v29 => ck (inb (2 : Int32) 3) (lt1 (sI u26 76 (Int32.toNatClampNeg (2 : Int32)) ((gI u26 76 (Int32.toNatClampNeg (2 : Int32))) + v29)) (fun u31 => lt1 (sI u31 25 1 v27) (fun u32 => some u32))))))))))))))))))))))
section S_X11_turnBallast
variable {p : Program} {l : Launch} {e : Env} {R : Room} {s : State} {m : MethodId} {args : Array Value} {below : List Frame} {meth : Method} {c : Code} {ad : Nat → Nat} {g : va_G} {tyc : Nat → ClassId}
set_option maxRecDepth 20000 in
theorem C_X11_turnBallast  {x1 : Int32} {x2 : Int32} {μ : gs_M} {μ2 : gs_M}  (hD : D_X11_turnBallast x1 x2 μ = some μ2) : CALL yX11_turnBallast cX11_turnBallast 5 none 4 [.ref 0, .int x1, .int x2] μ none μ2 := by
  unfold D_X11_turnBallast at hD
  refine gs_enter mf_X11_turnBallast (Nat.le_of_ble_eq_true rfl) (ls := [.ref 0, .int x1, .int x2, gs_J, gs_J]) rfl (fun p l e R s m args below meth c ad g tyc hK => ?_)
  have hK : KC p R s m args meth c ad g tyc RX11 cX11_turnBallast 5 none 4 := hK
  refine r_aload_n hK d_X11_turnBallast_0 rfl rfl ?_
  refine r_getR hK d_X11_turnBallast_1 fl_RX11_50_10 rfl kd_0 ?_
  refine r_ref (b := 16) R0_0_6 ?_
  refine r_getR hK d_X11_turnBallast_4 fl_RX11_383_5 rfl kd_16 ?_
  refine r_ref (b := 17) R0_16_0 ?_
  refine r_astore_n hK d_X11_turnBallast_7 rfl (by decide) (ls2 := [.ref 0, .int x1, .int x2, .ref 17, gs_J]) rfl ?_
  refine r_aload_n hK d_X11_turnBallast_8 rfl rfl ?_
  refine r_iconst hK d_X11_turnBallast_9 ci_0 ?_
  refine r_aload_n hK d_X11_turnBallast_10 rfl rfl ?_
  refine r_getR hK d_X11_turnBallast_11 fl_RX11_76_10 rfl kd_0 ?_
  refine r_ref (b := 56) R0_0_11 ?_
  obtain ⟨v3, u2, e1, hD⟩ := bd_e hD
  refine r_callV (As := []) (st := [.int (0 : Int32), .ref 17]) (stk2 := [.int v3, .int (0 : Int32), .ref 17]) hK (C_X10_lean kd_56 e1) d_X11_turnBallast_14 mf_X10_lean ml_RX11_256 im_X10_lean rfl se_9_RX10_X10_lean kd_56 rfl (Nat.le_of_ble_eq_true rfl) (by decide) ⟨Nat.zero_le _, Nat.zero_le _⟩ rfl rfl ?_
  obtain ⟨h4, hD⟩ := ck_e hD
  refine r_iast hK d_X11_turnBallast_17 kd_17 ln_17 (inb_in h4) ?_
  refine r_ltm hD (fun u5 hD => ?_)
  refine r_aload_n hK d_X11_turnBallast_18 rfl rfl ?_
  refine r_iconst hK d_X11_turnBallast_19 ci_1 ?_
  refine r_aload_n hK d_X11_turnBallast_20 rfl rfl ?_
  refine r_getR hK d_X11_turnBallast_21 fl_RX11_76_10 rfl kd_0 ?_
  refine r_ref (b := 56) R0_0_11 ?_
  refine r_getI hK d_X11_turnBallast_24 fl_RX11_216_9 rfl kd_56 ?_
  obtain ⟨h6, hD⟩ := ck_e hD
  refine r_iast hK d_X11_turnBallast_27 kd_17 ln_17 (inb_in h6) ?_
  refine r_ltm hD (fun u7 hD => ?_)
  refine r_aload_n hK d_X11_turnBallast_28 rfl rfl ?_
  refine r_iconst hK d_X11_turnBallast_29 ci_2 ?_
  refine r_aload_n hK d_X11_turnBallast_30 rfl rfl ?_
  refine r_getR hK d_X11_turnBallast_31 fl_RX11_76_10 rfl kd_0 ?_
  refine r_ref (b := 56) R0_0_11 ?_
  obtain ⟨v10, u9, e8, hD⟩ := bd_e hD
  refine r_callV (As := []) (st := [.int (2 : Int32), .ref 17]) (stk2 := [.int v10, .int (2 : Int32), .ref 17]) hK (C_X10_mostShaken kd_56 e8) d_X11_turnBallast_34 mf_X10_mostShaken ml_RX11_386 im_X10_mostShaken rfl se_9_RX10_X10_mostShaken kd_56 rfl (Nat.le_of_ble_eq_true rfl) (by decide) ⟨Nat.zero_le _, Nat.zero_le _⟩ rfl rfl ?_
  obtain ⟨h11, hD⟩ := ck_e hD
  refine r_iast hK d_X11_turnBallast_37 kd_17 ln_17 (inb_in h11) ?_
  refine r_ltm hD (fun u12 hD => ?_)
  refine r_aload_n hK d_X11_turnBallast_38 rfl rfl ?_
  refine r_iconst hK d_X11_turnBallast_39 ci_3 ?_
  refine r_iload_n hK d_X11_turnBallast_40 rfl rfl ?_
  obtain ⟨h13, hD⟩ := ck_e hD
  refine r_iast hK d_X11_turnBallast_41 kd_17 ln_17 (inb_in h13) ?_
  refine r_ltm hD (fun u14 hD => ?_)
  refine r_aload_n hK d_X11_turnBallast_42 rfl rfl ?_
  refine r_iconst hK d_X11_turnBallast_43 ci_4 ?_
  refine r_aload_n hK d_X11_turnBallast_44 rfl rfl ?_
  refine r_getR hK d_X11_turnBallast_45 fl_RX11_57_10 rfl kd_0 ?_
  refine r_ref (b := 25) R0_0_7 ?_
  refine r_getI hK d_X11_turnBallast_48 fl_RX11_160_6 rfl kd_25 ?_
  obtain ⟨h15, hD⟩ := ck_e hD
  refine r_iast hK d_X11_turnBallast_51 kd_17 ln_17 (inb_in h15) ?_
  refine r_ltm hD (fun u16 hD => ?_)
  refine r_aload_n hK d_X11_turnBallast_52 rfl rfl ?_
  refine r_iconst hK d_X11_turnBallast_53 ci_5 ?_
  refine r_aload_n hK d_X11_turnBallast_54 rfl rfl ?_
  refine r_getR hK d_X11_turnBallast_55 fl_RX11_76_10 rfl kd_0 ?_
  refine r_ref (b := 56) R0_0_11 ?_
  obtain ⟨v19, u18, e17, hD⟩ := bd_e hD
  refine r_callV (As := []) (st := [.int (5 : Int32), .ref 17]) (stk2 := [.int v19, .int (5 : Int32), .ref 17]) hK (C_X10_moments kd_56 e17) d_X11_turnBallast_58 mf_X10_moments ml_RX11_266 im_X10_moments rfl se_9_RX10_X10_moments kd_56 rfl (Nat.le_of_ble_eq_true rfl) (by decide) ⟨Nat.zero_le _, Nat.zero_le _⟩ rfl rfl ?_
  refine r_bipush hK d_X11_turnBallast_61 cb_100 ?_
  refine r_idiv hK d_X11_turnBallast_63 (by decide) ?_
  obtain ⟨h20, hD⟩ := ck_e hD
  refine r_iast hK d_X11_turnBallast_64 kd_17 ln_17 (inb_in h20) ?_
  refine r_ltm hD (fun u21 hD => ?_)
  refine r_aload_n hK d_X11_turnBallast_65 rfl rfl ?_
  refine r_getR hK d_X11_turnBallast_66 fl_RX11_50_10 rfl kd_0 ?_
  refine r_ref (b := 16) R0_0_6 ?_
  refine r_iload_n hK d_X11_turnBallast_69 rfl rfl ?_
  obtain ⟨v24, u23, e22, hD⟩ := bd_e hD
  refine r_callV (As := [.int x1]) (st := []) (stk2 := [.int v24]) hK (C_X6_worth  e22) d_X11_turnBallast_70 mf_X6_worth ml_RX11_389 im_X6_worth rfl se_5_RX6_X6_worth kd_16 rfl (Nat.le_of_ble_eq_true rfl) (by decide) ⟨Nat.zero_le _, Nat.zero_le _⟩ rfl rfl ?_
  refine r_sipush hK d_X11_turnBallast_73 cs_999 ?_
  obtain ⟨v27, u26, e25, hD⟩ := bd_e hD
  refine r_callS (As := [.int v24, .int (999 : Int32)]) (st := []) (stk2 := [.int v27]) hK (C_X11_held  e25) d_X11_turnBallast_76 mf_X11_held ml_RX11_392 ss_X11_held rfl (Nat.le_of_ble_eq_true rfl) (by decide) ⟨Nat.zero_le _, Nat.zero_le _⟩ rfl rfl ?_
  refine r_istore hK d_X11_turnBallast_79 (by decide) (ls2 := [.ref 0, .int x1, .int x2, .ref 17, .int v27]) rfl ?_
  refine r_aload_n hK d_X11_turnBallast_81 rfl rfl ?_
  refine r_getR hK d_X11_turnBallast_82 fl_RX11_107_10 rfl kd_0 ?_
  refine r_ref (b := 76) R0_0_18 ?_
  refine r_iconst hK d_X11_turnBallast_85 ci_2 ?_
  refine r_dup2 hK d_X11_turnBallast_86 rfl rfl ?_
  obtain ⟨h28, hD⟩ := ck_e hD
  refine r_iald hK d_X11_turnBallast_87 kd_76 ln_76 (inb_in h28) ?_
  refine r_iload hK d_X11_turnBallast_88 rfl ?_
  refine r_aload_n hK d_X11_turnBallast_90 rfl rfl ?_
  refine r_getR hK d_X11_turnBallast_91 fl_RX11_57_10 rfl kd_0 ?_
  refine r_ref (b := 25) R0_0_7 ?_
  refine r_getI hK d_X11_turnBallast_94 fl_RX11_160_6 rfl kd_25 ?_
  refine r_isub hK d_X11_turnBallast_97 ?_
  refine r_mabs hK d_X11_turnBallast_98 mm_RX11_286 ms_abs mi_0 mc_abs (Nat.le_of_ble_eq_true rfl) (by decide) ⟨Nat.zero_le _, Nat.zero_le _⟩ ?_
  refine r_lti hD (fun v29 hD => ?_)
  refine r_iadd hK d_X11_turnBallast_101 ?_
  obtain ⟨h30, hD⟩ := ck_e hD
  refine r_iast hK d_X11_turnBallast_102 kd_76 ln_76 (inb_in h30) ?_
  refine r_ltm hD (fun u31 hD => ?_)
  refine r_aload_n hK d_X11_turnBallast_103 rfl rfl ?_
  refine r_getR hK d_X11_turnBallast_104 fl_RX11_57_10 rfl kd_0 ?_
  refine r_ref (b := 25) R0_0_7 ?_
  refine r_iload hK d_X11_turnBallast_107 rfl ?_
  refine r_putI hK d_X11_turnBallast_109 fl_RX11_160_6 rfl rfl kd_25 ?_
  refine r_ltm hD (fun u32 hD => ?_)
  cases hD
  exact r_vret hK d_X11_turnBallast_112
end S_X11_turnBallast
theorem d_X11_followRule_0 : gd cX11_followRule 0 (.aload_n 0) 1 1 := ⟨by decide +kernel, rfl⟩
theorem d_X11_followRule_1 : gd cX11_followRule 1 (.getfield 57) 3 4 := ⟨by decide +kernel, rfl⟩
theorem d_X11_followRule_4 : gd cX11_followRule 4 (.getfield 160) 3 7 := ⟨by decide +kernel, rfl⟩
theorem d_X11_followRule_7 : gd cX11_followRule 7 (.istore 5) 2 9 := ⟨by decide +kernel, rfl⟩
theorem d_X11_followRule_9 : gd cX11_followRule 9 (.iconst 0) 1 10 := ⟨by decide +kernel, rfl⟩
theorem d_X11_followRule_10 : gd cX11_followRule 10 (.istore 6) 2 12 := ⟨by decide +kernel, rfl⟩
theorem d_X11_followRule_12 : gd cX11_followRule 12 (.iload 6) 2 14 := ⟨by decide +kernel, rfl⟩
theorem d_X11_followRule_14 : gd cX11_followRule 14 (.iconst 3) 1 15 := ⟨by decide +kernel, rfl⟩
theorem d_X11_followRule_15 : gd cX11_followRule 15 (.if_icmp .ge 17) 3 18 := ⟨by decide +kernel, rfl⟩
theorem d_X11_followRule_18 : gd cX11_followRule 18 (.aload_n 0) 1 19 := ⟨by decide +kernel, rfl⟩
theorem d_X11_followRule_19 : gd cX11_followRule 19 (.getfield 107) 3 22 := ⟨by decide +kernel, rfl⟩
theorem d_X11_followRule_22 : gd cX11_followRule 22 (.iload 6) 2 24 := ⟨by decide +kernel, rfl⟩
theorem d_X11_followRule_24 : gd cX11_followRule 24 (.iconst 0) 1 25 := ⟨by decide +kernel, rfl⟩
theorem d_X11_followRule_25 : gd cX11_followRule 25 .iastore 1 26 := ⟨by decide +kernel, rfl⟩
theorem d_X11_followRule_26 : gd cX11_followRule 26 (.iinc 6 1) 3 29 := ⟨by decide +kernel, rfl⟩
theorem d_X11_followRule_29 : gd cX11_followRule 29 (.goto (-17)) 3 32 := ⟨by decide +kernel, rfl⟩
theorem d_X11_followRule_32 : gd cX11_followRule 32 (.iconst 0) 1 33 := ⟨by decide +kernel, rfl⟩
theorem d_X11_followRule_33 : gd cX11_followRule 33 (.istore 6) 2 35 := ⟨by decide +kernel, rfl⟩
theorem d_X11_followRule_35 : gd cX11_followRule 35 (.iload 6) 2 37 := ⟨by decide +kernel, rfl⟩
theorem d_X11_followRule_37 : gd cX11_followRule 37 (.iload 4) 2 39 := ⟨by decide +kernel, rfl⟩
theorem d_X11_followRule_39 : gd cX11_followRule 39 (.if_icmp .ge 122) 3 42 := ⟨by decide +kernel, rfl⟩
theorem d_X11_followRule_42 : gd cX11_followRule 42 (.aload_n 0) 1 43 := ⟨by decide +kernel, rfl⟩
theorem d_X11_followRule_43 : gd cX11_followRule 43 (.getfield 57) 3 46 := ⟨by decide +kernel, rfl⟩
theorem d_X11_followRule_46 : gd cX11_followRule 46 (.iload 5) 2 48 := ⟨by decide +kernel, rfl⟩
theorem d_X11_followRule_48 : gd cX11_followRule 48 (.putfield 160) 3 51 := ⟨by decide +kernel, rfl⟩
theorem d_X11_followRule_51 : gd cX11_followRule 51 (.aload_n 0) 1 52 := ⟨by decide +kernel, rfl⟩
theorem d_X11_followRule_52 : gd cX11_followRule 52 (.getfield 76) 3 55 := ⟨by decide +kernel, rfl⟩
theorem d_X11_followRule_55 : gd cX11_followRule 55 (.aload_n 0) 1 56 := ⟨by decide +kernel, rfl⟩
theorem d_X11_followRule_56 : gd cX11_followRule 56 (.getfield 66) 3 59 := ⟨by decide +kernel, rfl⟩
theorem d_X11_followRule_59 : gd cX11_followRule 59 (.invokevirtual 278) 3 62 := ⟨by decide +kernel, rfl⟩
theorem d_X11_followRule_62 : gd cX11_followRule 62 (.aload_n 0) 1 63 := ⟨by decide +kernel, rfl⟩
theorem d_X11_followRule_63 : gd cX11_followRule 63 (.getfield 76) 3 66 := ⟨by decide +kernel, rfl⟩
theorem d_X11_followRule_66 : gd cX11_followRule 66 (.iload 6) 2 68 := ⟨by decide +kernel, rfl⟩
theorem d_X11_followRule_68 : gd cX11_followRule 68 .i2l 1 69 := ⟨by decide +kernel, rfl⟩
theorem d_X11_followRule_69 : gd cX11_followRule 69 (.putfield 174) 3 72 := ⟨by decide +kernel, rfl⟩
theorem d_X11_followRule_72 : gd cX11_followRule 72 (.iconst 0) 1 73 := ⟨by decide +kernel, rfl⟩
theorem d_X11_followRule_73 : gd cX11_followRule 73 (.istore 7) 2 75 := ⟨by decide +kernel, rfl⟩
theorem d_X11_followRule_75 : gd cX11_followRule 75 (.iload 7) 2 77 := ⟨by decide +kernel, rfl⟩
theorem d_X11_followRule_77 : gd cX11_followRule 77 (.iload_n 3) 1 78 := ⟨by decide +kernel, rfl⟩
theorem d_X11_followRule_78 : gd cX11_followRule 78 (.if_icmp .ge 34) 3 81 := ⟨by decide +kernel, rfl⟩
theorem d_X11_followRule_81 : gd cX11_followRule 81 (.aload_n 0) 1 82 := ⟨by decide +kernel, rfl⟩
theorem d_X11_followRule_82 : gd cX11_followRule 82 (.getfield 76) 3 85 := ⟨by decide +kernel, rfl⟩
theorem d_X11_followRule_85 : gd cX11_followRule 85 (.getfield 262) 3 88 := ⟨by decide +kernel, rfl⟩
theorem d_X11_followRule_88 : gd cX11_followRule 88 (.ifCond .ne 24) 3 91 := ⟨by decide +kernel, rfl⟩
theorem d_X11_followRule_91 : gd cX11_followRule 91 (.aload_n 0) 1 92 := ⟨by decide +kernel, rfl⟩
theorem d_X11_followRule_92 : gd cX11_followRule 92 (.iload_n 1) 1 93 := ⟨by decide +kernel, rfl⟩
theorem d_X11_followRule_93 : gd cX11_followRule 93 (.iload_n 2) 1 94 := ⟨by decide +kernel, rfl⟩
theorem d_X11_followRule_94 : gd cX11_followRule 94 (.invokevirtual 380) 3 97 := ⟨by decide +kernel, rfl⟩
theorem d_X11_followRule_97 : gd cX11_followRule 97 (.aload_n 0) 1 98 := ⟨by decide +kernel, rfl⟩
theorem d_X11_followRule_98 : gd cX11_followRule 98 (.getfield 76) 3 101 := ⟨by decide +kernel, rfl⟩
theorem d_X11_followRule_101 : gd cX11_followRule 101 (.iload_n 2) 1 102 := ⟨by decide +kernel, rfl⟩
theorem d_X11_followRule_102 : gd cX11_followRule 102 (.iconst 1) 1 103 := ⟨by decide +kernel, rfl⟩
theorem d_X11_followRule_103 : gd cX11_followRule 103 (.invokevirtual 213) 3 106 := ⟨by decide +kernel, rfl⟩
theorem d_X11_followRule_106 : gd cX11_followRule 106 (.iinc 7 1) 3 109 := ⟨by decide +kernel, rfl⟩
theorem d_X11_followRule_109 : gd cX11_followRule 109 (.goto (-34)) 3 112 := ⟨by decide +kernel, rfl⟩
theorem d_X11_followRule_112 : gd cX11_followRule 112 (.aload_n 0) 1 113 := ⟨by decide +kernel, rfl⟩
theorem d_X11_followRule_113 : gd cX11_followRule 113 (.getfield 107) 3 116 := ⟨by decide +kernel, rfl⟩
theorem d_X11_followRule_116 : gd cX11_followRule 116 (.iconst 0) 1 117 := ⟨by decide +kernel, rfl⟩
theorem d_X11_followRule_117 : gd cX11_followRule 117 .dup2 1 118 := ⟨by decide +kernel, rfl⟩
theorem d_X11_followRule_118 : gd cX11_followRule 118 .iaload 1 119 := ⟨by decide +kernel, rfl⟩
theorem d_X11_followRule_119 : gd cX11_followRule 119 (.aload_n 0) 1 120 := ⟨by decide +kernel, rfl⟩
theorem d_X11_followRule_120 : gd cX11_followRule 120 (.getfield 76) 3 123 := ⟨by decide +kernel, rfl⟩
theorem d_X11_followRule_123 : gd cX11_followRule 123 (.getfield 262) 3 126 := ⟨by decide +kernel, rfl⟩
theorem d_X11_followRule_126 : gd cX11_followRule 126 (.ifCond .eq 7) 3 129 := ⟨by decide +kernel, rfl⟩
theorem d_X11_followRule_129 : gd cX11_followRule 129 (.iconst 1) 1 130 := ⟨by decide +kernel, rfl⟩
theorem d_X11_followRule_130 : gd cX11_followRule 130 (.goto 4) 3 133 := ⟨by decide +kernel, rfl⟩
theorem d_X11_followRule_133 : gd cX11_followRule 133 (.iconst 0) 1 134 := ⟨by decide +kernel, rfl⟩
theorem d_X11_followRule_134 : gd cX11_followRule 134 .iadd 1 135 := ⟨by decide +kernel, rfl⟩
theorem d_X11_followRule_135 : gd cX11_followRule 135 .iastore 1 136 := ⟨by decide +kernel, rfl⟩
theorem d_X11_followRule_136 : gd cX11_followRule 136 (.aload_n 0) 1 137 := ⟨by decide +kernel, rfl⟩
theorem d_X11_followRule_137 : gd cX11_followRule 137 (.getfield 107) 3 140 := ⟨by decide +kernel, rfl⟩
theorem d_X11_followRule_140 : gd cX11_followRule 140 (.iconst 1) 1 141 := ⟨by decide +kernel, rfl⟩
theorem d_X11_followRule_141 : gd cX11_followRule 141 .dup2 1 142 := ⟨by decide +kernel, rfl⟩
theorem d_X11_followRule_142 : gd cX11_followRule 142 .iaload 1 143 := ⟨by decide +kernel, rfl⟩
theorem d_X11_followRule_143 : gd cX11_followRule 143 (.aload_n 0) 1 144 := ⟨by decide +kernel, rfl⟩
theorem d_X11_followRule_144 : gd cX11_followRule 144 (.getfield 76) 3 147 := ⟨by decide +kernel, rfl⟩
theorem d_X11_followRule_147 : gd cX11_followRule 147 (.invokevirtual 256) 3 150 := ⟨by decide +kernel, rfl⟩
theorem d_X11_followRule_150 : gd cX11_followRule 150 (.invokestatic 286) 3 153 := ⟨by decide +kernel, rfl⟩
theorem d_X11_followRule_153 : gd cX11_followRule 153 .iadd 1 154 := ⟨by decide +kernel, rfl⟩
theorem d_X11_followRule_154 : gd cX11_followRule 154 .iastore 1 155 := ⟨by decide +kernel, rfl⟩
theorem d_X11_followRule_155 : gd cX11_followRule 155 (.iinc 6 1) 3 158 := ⟨by decide +kernel, rfl⟩
theorem d_X11_followRule_158 : gd cX11_followRule 158 (.goto (-123)) 3 161 := ⟨by decide +kernel, rfl⟩
theorem d_X11_followRule_161 : gd cX11_followRule 161 (.aload_n 0) 1 162 := ⟨by decide +kernel, rfl⟩
theorem d_X11_followRule_162 : gd cX11_followRule 162 (.getfield 57) 3 165 := ⟨by decide +kernel, rfl⟩
theorem d_X11_followRule_165 : gd cX11_followRule 165 (.iload 5) 2 167 := ⟨by decide +kernel, rfl⟩
theorem d_X11_followRule_167 : gd cX11_followRule 167 (.putfield 160) 3 170 := ⟨by decide +kernel, rfl⟩
theorem d_X11_followRule_170 : gd cX11_followRule 170 .return_ 1 171 := ⟨by decide +kernel, rfl⟩
def B_X11_followRule_134 (q35 : Int32 → Int32 → Int32 → Int32 → Int32 → Int32 → gs_M → Option (gs_M)) (x1 : Int32) (x2 : Int32) (x3 : Int32) (x4 : Int32) (x5 : Int32) (x6 : Int32) (xs1 : Int32) (xs2 : Int32) (xs3 : Int32) (μ : gs_M) : Option (gs_M) :=
  ck (inb xs1 3) (lt1 (sI μ 76 (Int32.toNatClampNeg xs1) (xs2 + xs3)) (fun u2 => ck (inb (1 : Int32) 3) (bd (D_X10_lean 56 u2) (fun v6 u5 => lt1 (if 0 ≤ v6 then v6 else 0 - v6) (fun v7 => ck (inb (1 : Int32) 3) (lt1 (sI u5 76 (Int32.toNatClampNeg (1 : Int32)) ((gI u2 76 (Int32.toNatClampNeg (1 : Int32))) + v7)) (fun u9 => q35 x1 x2 x3 x4 x5 (x6 + (1 : Int32)) u9)))))))
def B_X11_followRule_112 (q35 : Int32 → Int32 → Int32 → Int32 → Int32 → Int32 → gs_M → Option (gs_M)) (x1 : Int32) (x2 : Int32) (x3 : Int32) (x4 : Int32) (x5 : Int32) (x6 : Int32) (μ : gs_M) : Option (gs_M) :=
  ck (inb (0 : Int32) 3) (if (gI μ 56 4) = 0 then (B_X11_followRule_134 q35 x1 x2 x3 x4 x5 x6 (0 : Int32) (gI μ 76 (Int32.toNatClampNeg (0 : Int32))) (0 : Int32) μ) else (B_X11_followRule_134 q35 x1 x2 x3 x4 x5 x6 (0 : Int32) (gI μ 76 (Int32.toNatClampNeg (0 : Int32))) (1 : Int32) μ))
def Bo_X11_followRule_75 (q35 : Int32 → Int32 → Int32 → Int32 → Int32 → Int32 → gs_M → Option (gs_M)) (q75 : Int32 → Int32 → Int32 → Int32 → Int32 → Int32 → Int32 → gs_M → Option (gs_M)) (x1 : Int32) (x2 : Int32) (x3 : Int32) (x4 : Int32) (x5 : Int32) (x6 : Int32) (x7 : Int32) (μ : gs_M) : Option (gs_M) :=
  if x3 ≤ x7 then (B_X11_followRule_112 q35 x1 x2 x3 x4 x5 x6 μ) else (if (gI μ 56 4) = 0 then (bd0 (D_X11_turnBallast x1 x2 μ) (fun u4 => bd0 (D_X10_sail 56 x2 (1 : Int32) u4) (fun u6 => q75 x1 x2 x3 x4 x5 x6 (x7 + (1 : Int32)) u6))) else (B_X11_followRule_112 q35 x1 x2 x3 x4 x5 x6 μ))
def L_X11_followRule_75 (q35 : Int32 → Int32 → Int32 → Int32 → Int32 → Int32 → gs_M → Option (gs_M)) : Nat → Int32 → Int32 → Int32 → Int32 → Int32 → Int32 → Int32 → gs_M → Option (gs_M)
  | 0 => fun _ _ _ _ _ _ _ _ => none
  | n + 1 => fun x1 x2 x3 x4 x5 x6 x7 μ => Bo_X11_followRule_75 q35 (L_X11_followRule_75 q35 n) x1 x2 x3 x4 x5 x6 x7 μ
def Bo_X11_followRule_35 (q35 : Int32 → Int32 → Int32 → Int32 → Int32 → Int32 → gs_M → Option (gs_M)) (x1 : Int32) (x2 : Int32) (x3 : Int32) (x4 : Int32) (x5 : Int32) (x6 : Int32) (μ : gs_M) : Option (gs_M) :=
  if x4 ≤ x6 then (lt1 (sI μ 25 1 x5) (fun u2 => some u2)) else (lt1 (sI μ 25 1 x5) (fun u3 => bd0 (D_X10_become 56 26 u3) (fun u5 => lt1 (sL u5 56 5 (Int32.toInt64 x6)) (fun u6 => L_X11_followRule_75 q35 4096 x1 x2 x3 x4 x5 x6 (0 : Int32) u6))))
def L_X11_followRule_35  : Nat → Int32 → Int32 → Int32 → Int32 → Int32 → Int32 → gs_M → Option (gs_M)
  | 0 => fun _ _ _ _ _ _ _ => none
  | n + 1 => fun x1 x2 x3 x4 x5 x6 μ => Bo_X11_followRule_35  (L_X11_followRule_35  n) x1 x2 x3 x4 x5 x6 μ
def Bo_X11_followRule_12 (q12 : Int32 → Int32 → Int32 → Int32 → Int32 → Int32 → gs_M → Option (gs_M)) (x1 : Int32) (x2 : Int32) (x3 : Int32) (x4 : Int32) (x5 : Int32) (x6 : Int32) (μ : gs_M) : Option (gs_M) :=
  if (3 : Int32) ≤ x6 then (L_X11_followRule_35 4096 x1 x2 x3 x4 x5 (0 : Int32) μ) else (ck (inb x6 3) (lt1 (sI μ 76 (Int32.toNatClampNeg x6) (0 : Int32)) (fun u3 => q12 x1 x2 x3 x4 x5 (x6 + (1 : Int32)) u3)))
def L_X11_followRule_12  : Nat → Int32 → Int32 → Int32 → Int32 → Int32 → Int32 → gs_M → Option (gs_M)
  | 0 => fun _ _ _ _ _ _ _ => none
  | n + 1 => fun x1 x2 x3 x4 x5 x6 μ => Bo_X11_followRule_12  (L_X11_followRule_12  n) x1 x2 x3 x4 x5 x6 μ
def D_X11_followRule (x1 : Int32) (x2 : Int32) (x3 : Int32) (x4 : Int32) (μ : gs_M) : Option (gs_M) :=
  lt1 (gI μ 25 1) (fun v1 => L_X11_followRule_12 4096 x1 x2 x3 x4 v1 (0 : Int32) μ)
section S_X11_followRule
variable {p : Program} {l : Launch} {e : Env} {R : Room} {s : State} {m : MethodId} {args : Array Value} {below : List Frame} {meth : Method} {c : Code} {ad : Nat → Nat} {g : va_G} {tyc : Nat → ClassId}
set_option maxRecDepth 20000 in
theorem T_X11_followRule_134  (hK : KC p R s m args meth c ad g tyc RX11 cX11_followRule 8 none 6) {μ2 : gs_M} {q35 : Int32 → Int32 → Int32 → Int32 → Int32 → Int32 → gs_M → Option (gs_M)} (hq35 : ∀ (x1 : Int32) (x2 : Int32) (x3 : Int32) (x4 : Int32) (x5 : Int32) (x6 : Int32) (μ : gs_M), q35 x1 x2 x3 x4 x5 x6 μ = some μ2 → WJ p l e R s m args below meth c 0 0 (MQ below (gs_Q ad g tyc none μ2) args s 0 0 (gs_A ad)) ad g tyc 8 35 [.ref 0, .int x1, .int x2, .int x3, .int x4, .int x5, .int x6, gs_J] [] μ) {x1 : Int32} {x2 : Int32} {x3 : Int32} {x4 : Int32} {x5 : Int32} {x6 : Int32} {xs1 : Int32} {xs2 : Int32} {xs3 : Int32} {μ : gs_M}  (hD : B_X11_followRule_134 q35 x1 x2 x3 x4 x5 x6 xs1 xs2 xs3 μ = some μ2) : WJ p l e R s m args below meth c 0 0 (MQ below (gs_Q ad g tyc none μ2) args s 0 0 (gs_A ad)) ad g tyc 8 134 [.ref 0, .int x1, .int x2, .int x3, .int x4, .int x5, .int x6, gs_J] [.int xs3, .int xs2, .int xs1, .ref 76] μ := by
  unfold B_X11_followRule_134 at hD
  refine r_iadd hK d_X11_followRule_134 ?_
  obtain ⟨h1, hD⟩ := ck_e hD
  refine r_iast hK d_X11_followRule_135 kd_76 ln_76 (inb_in h1) ?_
  refine r_ltm hD (fun u2 hD => ?_)
  refine r_aload_n hK d_X11_followRule_136 rfl rfl ?_
  refine r_getR hK d_X11_followRule_137 fl_RX11_107_10 rfl kd_0 ?_
  refine r_ref (b := 76) R0_0_18 ?_
  refine r_iconst hK d_X11_followRule_140 ci_1 ?_
  refine r_dup2 hK d_X11_followRule_141 rfl rfl ?_
  obtain ⟨h3, hD⟩ := ck_e hD
  refine r_iald hK d_X11_followRule_142 kd_76 ln_76 (inb_in h3) ?_
  refine r_aload_n hK d_X11_followRule_143 rfl rfl ?_
  refine r_getR hK d_X11_followRule_144 fl_RX11_76_10 rfl kd_0 ?_
  refine r_ref (b := 56) R0_0_11 ?_
  obtain ⟨v6, u5, e4, hD⟩ := bd_e hD
  refine r_callV (As := []) (st := [.int (gI u2 76 (Int32.toNatClampNeg (1 : Int32))), .int (1 : Int32), .ref 76]) (stk2 := [.int v6, .int (gI u2 76 (Int32.toNatClampNeg (1 : Int32))), .int (1 : Int32), .ref 76]) hK (C_X10_lean kd_56 e4) d_X11_followRule_147 mf_X10_lean ml_RX11_256 im_X10_lean rfl se_9_RX10_X10_lean kd_56 rfl (Nat.le_of_ble_eq_true rfl) (by decide) ⟨Nat.zero_le _, Nat.zero_le _⟩ rfl rfl ?_
  refine r_mabs hK d_X11_followRule_150 mm_RX11_286 ms_abs mi_0 mc_abs (Nat.le_of_ble_eq_true rfl) (by decide) ⟨Nat.zero_le _, Nat.zero_le _⟩ ?_
  refine r_lti hD (fun v7 hD => ?_)
  refine r_iadd hK d_X11_followRule_153 ?_
  obtain ⟨h8, hD⟩ := ck_e hD
  refine r_iast hK d_X11_followRule_154 kd_76 ln_76 (inb_in h8) ?_
  refine r_ltm hD (fun u9 hD => ?_)
  refine r_iinc hK d_X11_followRule_155 rfl (v := x6 + (1 : Int32)) (by rw [ci_1]) (by decide) (ls2 := [.ref 0, .int x1, .int x2, .int x3, .int x4, .int x5, .int (x6 + (1 : Int32)), gs_J]) rfl ?_
  refine r_goto (tgt := 35) hK d_X11_followRule_158 (by decide) ?_
  exact hq35 _ _ _ _ _ _ _  hD
set_option maxRecDepth 20000 in
theorem T_X11_followRule_112  (hK : KC p R s m args meth c ad g tyc RX11 cX11_followRule 8 none 6) {μ2 : gs_M} {q35 : Int32 → Int32 → Int32 → Int32 → Int32 → Int32 → gs_M → Option (gs_M)} (hq35 : ∀ (x1 : Int32) (x2 : Int32) (x3 : Int32) (x4 : Int32) (x5 : Int32) (x6 : Int32) (μ : gs_M), q35 x1 x2 x3 x4 x5 x6 μ = some μ2 → WJ p l e R s m args below meth c 0 0 (MQ below (gs_Q ad g tyc none μ2) args s 0 0 (gs_A ad)) ad g tyc 8 35 [.ref 0, .int x1, .int x2, .int x3, .int x4, .int x5, .int x6, gs_J] [] μ) {x1 : Int32} {x2 : Int32} {x3 : Int32} {x4 : Int32} {x5 : Int32} {x6 : Int32} {μ : gs_M}  (hD : B_X11_followRule_112 q35 x1 x2 x3 x4 x5 x6 μ = some μ2) : WJ p l e R s m args below meth c 0 0 (MQ below (gs_Q ad g tyc none μ2) args s 0 0 (gs_A ad)) ad g tyc 8 112 [.ref 0, .int x1, .int x2, .int x3, .int x4, .int x5, .int x6, gs_J] [] μ := by
  unfold B_X11_followRule_112 at hD
  refine r_aload_n hK d_X11_followRule_112 rfl rfl ?_
  refine r_getR hK d_X11_followRule_113 fl_RX11_107_10 rfl kd_0 ?_
  refine r_ref (b := 76) R0_0_18 ?_
  refine r_iconst hK d_X11_followRule_116 ci_0 ?_
  refine r_dup2 hK d_X11_followRule_117 rfl rfl ?_
  obtain ⟨h1, hD⟩ := ck_e hD
  refine r_iald hK d_X11_followRule_118 kd_76 ln_76 (inb_in h1) ?_
  refine r_aload_n hK d_X11_followRule_119 rfl rfl ?_
  refine r_getR hK d_X11_followRule_120 fl_RX11_76_10 rfl kd_0 ?_
  refine r_ref (b := 56) R0_0_11 ?_
  refine r_getZ hK d_X11_followRule_123 fl_RX11_262_9 rfl kd_56 ?_
  refine r_if_eq (tgt := 133) hK d_X11_followRule_126 (by decide) (fun h2 => ?_) (fun h2 => ?_)
  · have hD := if_t hD h2
    refine r_iconst hK d_X11_followRule_133 ci_0 ?_
    exact T_X11_followRule_134 hK hq35  hD
  · have hD := if_f hD h2
    refine r_iconst hK d_X11_followRule_129 ci_1 ?_
    refine r_goto (tgt := 134) hK d_X11_followRule_130 (by decide) ?_
    exact T_X11_followRule_134 hK hq35  hD
set_option maxRecDepth 20000 in
theorem To_X11_followRule_75  (hK : KC p R s m args meth c ad g tyc RX11 cX11_followRule 8 none 6) {μ2 : gs_M} {q35 : Int32 → Int32 → Int32 → Int32 → Int32 → Int32 → gs_M → Option (gs_M)} {q75 : Int32 → Int32 → Int32 → Int32 → Int32 → Int32 → Int32 → gs_M → Option (gs_M)} (hq35 : ∀ (x1 : Int32) (x2 : Int32) (x3 : Int32) (x4 : Int32) (x5 : Int32) (x6 : Int32) (μ : gs_M), q35 x1 x2 x3 x4 x5 x6 μ = some μ2 → WJ p l e R s m args below meth c 0 0 (MQ below (gs_Q ad g tyc none μ2) args s 0 0 (gs_A ad)) ad g tyc 8 35 [.ref 0, .int x1, .int x2, .int x3, .int x4, .int x5, .int x6, gs_J] [] μ) (hq75 : ∀ (x1 : Int32) (x2 : Int32) (x3 : Int32) (x4 : Int32) (x5 : Int32) (x6 : Int32) (x7 : Int32) (μ : gs_M), q75 x1 x2 x3 x4 x5 x6 x7 μ = some μ2 → WJ p l e R s m args below meth c 0 0 (MQ below (gs_Q ad g tyc none μ2) args s 0 0 (gs_A ad)) ad g tyc 8 75 [.ref 0, .int x1, .int x2, .int x3, .int x4, .int x5, .int x6, .int x7] [] μ) {x1 : Int32} {x2 : Int32} {x3 : Int32} {x4 : Int32} {x5 : Int32} {x6 : Int32} {x7 : Int32} {μ : gs_M}  (hD : Bo_X11_followRule_75 q35 q75 x1 x2 x3 x4 x5 x6 x7 μ = some μ2) : WJ p l e R s m args below meth c 0 0 (MQ below (gs_Q ad g tyc none μ2) args s 0 0 (gs_A ad)) ad g tyc 8 75 [.ref 0, .int x1, .int x2, .int x3, .int x4, .int x5, .int x6, .int x7] [] μ := by
  unfold Bo_X11_followRule_75 at hD
  refine r_iload hK d_X11_followRule_75 rfl ?_
  refine r_iload_n hK d_X11_followRule_77 rfl rfl ?_
  refine r_icmp_ge (tgt := 112) hK d_X11_followRule_78 (by decide) (fun h1 => ?_) (fun h1 => ?_)
  · have hD := if_t hD h1
    refine r_junk [true, true, true, true, true, true, true, false] (ls2 := [.ref 0, .int x1, .int x2, .int x3, .int x4, .int x5, .int x6, gs_J]) rfl ?_
    exact T_X11_followRule_112 hK hq35  hD
  · have hD := if_f hD h1
    refine r_aload_n hK d_X11_followRule_81 rfl rfl ?_
    refine r_getR hK d_X11_followRule_82 fl_RX11_76_10 rfl kd_0 ?_
    refine r_ref (b := 56) R0_0_11 ?_
    refine r_getZ hK d_X11_followRule_85 fl_RX11_262_9 rfl kd_56 ?_
    refine r_if_ne (tgt := 112) hK d_X11_followRule_88 (by decide) (fun h2 => ?_) (fun h2 => ?_)
    · have hD := if_f hD h2
      refine r_junk [true, true, true, true, true, true, true, false] (ls2 := [.ref 0, .int x1, .int x2, .int x3, .int x4, .int x5, .int x6, gs_J]) rfl ?_
      exact T_X11_followRule_112 hK hq35  hD
    · have hD := if_t hD h2
      refine r_aload_n hK d_X11_followRule_91 rfl rfl ?_
      refine r_iload_n hK d_X11_followRule_92 rfl rfl ?_
      refine r_iload_n hK d_X11_followRule_93 rfl rfl ?_
      obtain ⟨u4, e3, hD⟩ := bd0_e hD
      refine r_callV (As := [.int x1, .int x2]) (st := []) (stk2 := []) hK (C_X11_turnBallast  e3) d_X11_followRule_94 mf_X11_turnBallast ml_RX11_380 im_X11_turnBallast rfl se_10_RX11_X11_turnBallast kd_0 rfl (Nat.le_of_ble_eq_true rfl) (by decide) ⟨Nat.zero_le _, Nat.zero_le _⟩ rfl rfl ?_
      refine r_aload_n hK d_X11_followRule_97 rfl rfl ?_
      refine r_getR hK d_X11_followRule_98 fl_RX11_76_10 rfl kd_0 ?_
      refine r_ref (b := 56) R0_0_11 ?_
      refine r_iload_n hK d_X11_followRule_101 rfl rfl ?_
      refine r_iconst hK d_X11_followRule_102 ci_1 ?_
      obtain ⟨u6, e5, hD⟩ := bd0_e hD
      refine r_callV (As := [.int x2, .int (1 : Int32)]) (st := []) (stk2 := []) hK (C_X10_sail kd_56 e5) d_X11_followRule_103 mf_X10_sail ml_RX11_213 im_X10_sail rfl se_9_RX10_X10_sail kd_56 rfl (Nat.le_of_ble_eq_true rfl) (by decide) ⟨Nat.zero_le _, Nat.zero_le _⟩ rfl rfl ?_
      refine r_iinc hK d_X11_followRule_106 rfl (v := x7 + (1 : Int32)) (by rw [ci_1]) (by decide) (ls2 := [.ref 0, .int x1, .int x2, .int x3, .int x4, .int x5, .int x6, .int (x7 + (1 : Int32))]) rfl ?_
      refine r_goto (tgt := 75) hK d_X11_followRule_109 (by decide) ?_
      exact hq75 _ _ _ _ _ _ _ _  hD
set_option maxRecDepth 20000 in
theorem TL_X11_followRule_75  (hK : KC p R s m args meth c ad g tyc RX11 cX11_followRule 8 none 6) {μ2 : gs_M} {q35 : Int32 → Int32 → Int32 → Int32 → Int32 → Int32 → gs_M → Option (gs_M)} (hq35 : ∀ (x1 : Int32) (x2 : Int32) (x3 : Int32) (x4 : Int32) (x5 : Int32) (x6 : Int32) (μ : gs_M), q35 x1 x2 x3 x4 x5 x6 μ = some μ2 → WJ p l e R s m args below meth c 0 0 (MQ below (gs_Q ad g tyc none μ2) args s 0 0 (gs_A ad)) ad g tyc 8 35 [.ref 0, .int x1, .int x2, .int x3, .int x4, .int x5, .int x6, gs_J] [] μ) : ∀ (n : Nat) (x1 : Int32) (x2 : Int32) (x3 : Int32) (x4 : Int32) (x5 : Int32) (x6 : Int32) (x7 : Int32) (μ : gs_M), L_X11_followRule_75 q35 n x1 x2 x3 x4 x5 x6 x7 μ = some μ2 → WJ p l e R s m args below meth c 0 0 (MQ below (gs_Q ad g tyc none μ2) args s 0 0 (gs_A ad)) ad g tyc 8 75 [.ref 0, .int x1, .int x2, .int x3, .int x4, .int x5, .int x6, .int x7] [] μ := by
  intro n
  induction n with
  | zero => intro x1 x2 x3 x4 x5 x6 x7 μ  hD; cases hD
  | succ n ih => intro x1 x2 x3 x4 x5 x6 x7 μ  hD; exact To_X11_followRule_75 hK hq35 ih  hD
set_option maxRecDepth 20000 in
theorem To_X11_followRule_35  (hK : KC p R s m args meth c ad g tyc RX11 cX11_followRule 8 none 6) {μ2 : gs_M} {q35 : Int32 → Int32 → Int32 → Int32 → Int32 → Int32 → gs_M → Option (gs_M)} (hq35 : ∀ (x1 : Int32) (x2 : Int32) (x3 : Int32) (x4 : Int32) (x5 : Int32) (x6 : Int32) (μ : gs_M), q35 x1 x2 x3 x4 x5 x6 μ = some μ2 → WJ p l e R s m args below meth c 0 0 (MQ below (gs_Q ad g tyc none μ2) args s 0 0 (gs_A ad)) ad g tyc 8 35 [.ref 0, .int x1, .int x2, .int x3, .int x4, .int x5, .int x6, gs_J] [] μ) {x1 : Int32} {x2 : Int32} {x3 : Int32} {x4 : Int32} {x5 : Int32} {x6 : Int32} {μ : gs_M}  (hD : Bo_X11_followRule_35 q35 x1 x2 x3 x4 x5 x6 μ = some μ2) : WJ p l e R s m args below meth c 0 0 (MQ below (gs_Q ad g tyc none μ2) args s 0 0 (gs_A ad)) ad g tyc 8 35 [.ref 0, .int x1, .int x2, .int x3, .int x4, .int x5, .int x6, gs_J] [] μ := by
  unfold Bo_X11_followRule_35 at hD
  refine r_iload hK d_X11_followRule_35 rfl ?_
  refine r_iload hK d_X11_followRule_37 rfl ?_
  refine r_icmp_ge (tgt := 161) hK d_X11_followRule_39 (by decide) (fun h1 => ?_) (fun h1 => ?_)
  · have hD := if_t hD h1
    refine r_aload_n hK d_X11_followRule_161 rfl rfl ?_
    refine r_getR hK d_X11_followRule_162 fl_RX11_57_10 rfl kd_0 ?_
    refine r_ref (b := 25) R0_0_7 ?_
    refine r_iload hK d_X11_followRule_165 rfl ?_
    refine r_putI hK d_X11_followRule_167 fl_RX11_160_6 rfl rfl kd_25 ?_
    refine r_ltm hD (fun u2 hD => ?_)
    cases hD
    exact r_vret hK d_X11_followRule_170
  · have hD := if_f hD h1
    refine r_aload_n hK d_X11_followRule_42 rfl rfl ?_
    refine r_getR hK d_X11_followRule_43 fl_RX11_57_10 rfl kd_0 ?_
    refine r_ref (b := 25) R0_0_7 ?_
    refine r_iload hK d_X11_followRule_46 rfl ?_
    refine r_putI hK d_X11_followRule_48 fl_RX11_160_6 rfl rfl kd_25 ?_
    refine r_ltm hD (fun u3 hD => ?_)
    refine r_aload_n hK d_X11_followRule_51 rfl rfl ?_
    refine r_getR hK d_X11_followRule_52 fl_RX11_76_10 rfl kd_0 ?_
    refine r_ref (b := 56) R0_0_11 ?_
    refine r_aload_n hK d_X11_followRule_55 rfl rfl ?_
    refine r_getR hK d_X11_followRule_56 fl_RX11_66_10 rfl kd_0 ?_
    refine r_ref (b := 26) R0_0_8 ?_
    obtain ⟨u5, e4, hD⟩ := bd0_e hD
    refine r_callV (As := [.ref 26]) (st := []) (stk2 := []) hK (C_X10_become kd_56 kd_26 e4) d_X11_followRule_59 mf_X10_become ml_RX11_278 im_X10_become rfl se_9_RX10_X10_become kd_56 rfl (Nat.le_of_ble_eq_true rfl) (by decide) ⟨Nat.zero_le _, Nat.zero_le _⟩ rfl rfl ?_
    refine r_aload_n hK d_X11_followRule_62 rfl rfl ?_
    refine r_getR hK d_X11_followRule_63 fl_RX11_76_10 rfl kd_0 ?_
    refine r_ref (b := 56) R0_0_11 ?_
    refine r_iload hK d_X11_followRule_66 rfl ?_
    refine r_i2l hK d_X11_followRule_68 ?_
    refine r_putL hK d_X11_followRule_69 fl_RX11_174_9 rfl rfl kd_56 ?_
    refine r_ltm hD (fun u6 hD => ?_)
    refine r_iconst hK d_X11_followRule_72 ci_0 ?_
    refine r_istore hK d_X11_followRule_73 (by decide) (ls2 := [.ref 0, .int x1, .int x2, .int x3, .int x4, .int x5, .int x6, .int (0 : Int32)]) rfl ?_
    exact TL_X11_followRule_75 hK hq35 _ _ _ _ _ _ _ _ _  hD
set_option maxRecDepth 20000 in
theorem TL_X11_followRule_35  (hK : KC p R s m args meth c ad g tyc RX11 cX11_followRule 8 none 6) {μ2 : gs_M}   : ∀ (n : Nat) (x1 : Int32) (x2 : Int32) (x3 : Int32) (x4 : Int32) (x5 : Int32) (x6 : Int32) (μ : gs_M), L_X11_followRule_35  n x1 x2 x3 x4 x5 x6 μ = some μ2 → WJ p l e R s m args below meth c 0 0 (MQ below (gs_Q ad g tyc none μ2) args s 0 0 (gs_A ad)) ad g tyc 8 35 [.ref 0, .int x1, .int x2, .int x3, .int x4, .int x5, .int x6, gs_J] [] μ := by
  intro n
  induction n with
  | zero => intro x1 x2 x3 x4 x5 x6 μ  hD; cases hD
  | succ n ih => intro x1 x2 x3 x4 x5 x6 μ  hD; exact To_X11_followRule_35 hK  ih  hD
set_option maxRecDepth 20000 in
theorem To_X11_followRule_12  (hK : KC p R s m args meth c ad g tyc RX11 cX11_followRule 8 none 6) {μ2 : gs_M} {q12 : Int32 → Int32 → Int32 → Int32 → Int32 → Int32 → gs_M → Option (gs_M)} (hq12 : ∀ (x1 : Int32) (x2 : Int32) (x3 : Int32) (x4 : Int32) (x5 : Int32) (x6 : Int32) (μ : gs_M), q12 x1 x2 x3 x4 x5 x6 μ = some μ2 → WJ p l e R s m args below meth c 0 0 (MQ below (gs_Q ad g tyc none μ2) args s 0 0 (gs_A ad)) ad g tyc 8 12 [.ref 0, .int x1, .int x2, .int x3, .int x4, .int x5, .int x6, gs_J] [] μ) {x1 : Int32} {x2 : Int32} {x3 : Int32} {x4 : Int32} {x5 : Int32} {x6 : Int32} {μ : gs_M}  (hD : Bo_X11_followRule_12 q12 x1 x2 x3 x4 x5 x6 μ = some μ2) : WJ p l e R s m args below meth c 0 0 (MQ below (gs_Q ad g tyc none μ2) args s 0 0 (gs_A ad)) ad g tyc 8 12 [.ref 0, .int x1, .int x2, .int x3, .int x4, .int x5, .int x6, gs_J] [] μ := by
  unfold Bo_X11_followRule_12 at hD
  refine r_iload hK d_X11_followRule_12 rfl ?_
  refine r_iconst hK d_X11_followRule_14 ci_3 ?_
  refine r_icmp_ge (tgt := 32) hK d_X11_followRule_15 (by decide) (fun h1 => ?_) (fun h1 => ?_)
  · have hD := if_t hD h1
    refine r_iconst hK d_X11_followRule_32 ci_0 ?_
    refine r_istore hK d_X11_followRule_33 (by decide) (ls2 := [.ref 0, .int x1, .int x2, .int x3, .int x4, .int x5, .int (0 : Int32), gs_J]) rfl ?_
    exact TL_X11_followRule_35 hK  _ _ _ _ _ _ _ _  hD
  · have hD := if_f hD h1
    refine r_aload_n hK d_X11_followRule_18 rfl rfl ?_
    refine r_getR hK d_X11_followRule_19 fl_RX11_107_10 rfl kd_0 ?_
    refine r_ref (b := 76) R0_0_18 ?_
    refine r_iload hK d_X11_followRule_22 rfl ?_
    refine r_iconst hK d_X11_followRule_24 ci_0 ?_
    obtain ⟨h2, hD⟩ := ck_e hD
    refine r_iast hK d_X11_followRule_25 kd_76 ln_76 (inb_in h2) ?_
    refine r_ltm hD (fun u3 hD => ?_)
    refine r_iinc hK d_X11_followRule_26 rfl (v := x6 + (1 : Int32)) (by rw [ci_1]) (by decide) (ls2 := [.ref 0, .int x1, .int x2, .int x3, .int x4, .int x5, .int (x6 + (1 : Int32)), gs_J]) rfl ?_
    refine r_goto (tgt := 12) hK d_X11_followRule_29 (by decide) ?_
    exact hq12 _ _ _ _ _ _ _  hD
set_option maxRecDepth 20000 in
theorem TL_X11_followRule_12  (hK : KC p R s m args meth c ad g tyc RX11 cX11_followRule 8 none 6) {μ2 : gs_M}   : ∀ (n : Nat) (x1 : Int32) (x2 : Int32) (x3 : Int32) (x4 : Int32) (x5 : Int32) (x6 : Int32) (μ : gs_M), L_X11_followRule_12  n x1 x2 x3 x4 x5 x6 μ = some μ2 → WJ p l e R s m args below meth c 0 0 (MQ below (gs_Q ad g tyc none μ2) args s 0 0 (gs_A ad)) ad g tyc 8 12 [.ref 0, .int x1, .int x2, .int x3, .int x4, .int x5, .int x6, gs_J] [] μ := by
  intro n
  induction n with
  | zero => intro x1 x2 x3 x4 x5 x6 μ  hD; cases hD
  | succ n ih => intro x1 x2 x3 x4 x5 x6 μ  hD; exact To_X11_followRule_12 hK  ih  hD
set_option maxRecDepth 20000 in
theorem C_X11_followRule  {x1 : Int32} {x2 : Int32} {x3 : Int32} {x4 : Int32} {μ : gs_M} {μ2 : gs_M}  (hD : D_X11_followRule x1 x2 x3 x4 μ = some μ2) : CALL yX11_followRule cX11_followRule 8 none 6 [.ref 0, .int x1, .int x2, .int x3, .int x4] μ none μ2 := by
  unfold D_X11_followRule at hD
  refine gs_enter mf_X11_followRule (Nat.le_of_ble_eq_true rfl) (ls := [.ref 0, .int x1, .int x2, .int x3, .int x4, gs_J, gs_J, gs_J]) rfl (fun p l e R s m args below meth c ad g tyc hK => ?_)
  have hK : KC p R s m args meth c ad g tyc RX11 cX11_followRule 8 none 6 := hK
  refine r_aload_n hK d_X11_followRule_0 rfl rfl ?_
  refine r_getR hK d_X11_followRule_1 fl_RX11_57_10 rfl kd_0 ?_
  refine r_ref (b := 25) R0_0_7 ?_
  refine r_getI hK d_X11_followRule_4 fl_RX11_160_6 rfl kd_25 ?_
  refine r_lti hD (fun v1 hD => ?_)
  refine r_istore hK d_X11_followRule_7 (by decide) (ls2 := [.ref 0, .int x1, .int x2, .int x3, .int x4, .int v1, gs_J, gs_J]) rfl ?_
  refine r_iconst hK d_X11_followRule_9 ci_0 ?_
  refine r_istore hK d_X11_followRule_10 (by decide) (ls2 := [.ref 0, .int x1, .int x2, .int x3, .int x4, .int v1, .int (0 : Int32), gs_J]) rfl ?_
  exact TL_X11_followRule_12 hK  _ _ _ _ _ _ _ _  hD
end S_X11_followRule
theorem d_X11_follow_0 : gd cX11_follow 0 (.aload_n 0) 1 1 := ⟨by decide +kernel, rfl⟩
theorem d_X11_follow_1 : gd cX11_follow 1 (.invokevirtual 206) 3 4 := ⟨by decide +kernel, rfl⟩
theorem d_X11_follow_4 : gd cX11_follow 4 (.ifCond .eq 40) 3 7 := ⟨by decide +kernel, rfl⟩
theorem d_X11_follow_7 : gd cX11_follow 7 (.iload_n 1) 1 8 := ⟨by decide +kernel, rfl⟩
theorem d_X11_follow_8 : gd cX11_follow 8 (.iconst 0) 1 9 := ⟨by decide +kernel, rfl⟩
theorem d_X11_follow_9 : gd cX11_follow 9 (.aload_n 0) 1 10 := ⟨by decide +kernel, rfl⟩
theorem d_X11_follow_10 : gd cX11_follow 10 (.getfield 50) 3 13 := ⟨by decide +kernel, rfl⟩
theorem d_X11_follow_13 : gd cX11_follow 13 (.getfield 373) 3 16 := ⟨by decide +kernel, rfl⟩
theorem d_X11_follow_16 : gd cX11_follow 16 (.iconst 1) 1 17 := ⟨by decide +kernel, rfl⟩
theorem d_X11_follow_17 : gd cX11_follow 17 .isub 1 18 := ⟨by decide +kernel, rfl⟩
theorem d_X11_follow_18 : gd cX11_follow 18 (.invokestatic 123) 3 21 := ⟨by decide +kernel, rfl⟩
theorem d_X11_follow_21 : gd cX11_follow 21 (.ifCond .eq 23) 3 24 := ⟨by decide +kernel, rfl⟩
theorem d_X11_follow_24 : gd cX11_follow 24 (.iload_n 2) 1 25 := ⟨by decide +kernel, rfl⟩
theorem d_X11_follow_25 : gd cX11_follow 25 (.iload_n 3) 1 26 := ⟨by decide +kernel, rfl⟩
theorem d_X11_follow_26 : gd cX11_follow 26 (.iload 4) 2 28 := ⟨by decide +kernel, rfl⟩
theorem d_X11_follow_28 : gd cX11_follow 28 (.invokestatic 304) 3 31 := ⟨by decide +kernel, rfl⟩
theorem d_X11_follow_31 : gd cX11_follow 31 (.ifCond .eq 13) 3 34 := ⟨by decide +kernel, rfl⟩
theorem d_X11_follow_34 : gd cX11_follow 34 (.iload 5) 2 36 := ⟨by decide +kernel, rfl⟩
theorem d_X11_follow_36 : gd cX11_follow 36 (.iconst 0) 1 37 := ⟨by decide +kernel, rfl⟩
theorem d_X11_follow_37 : gd cX11_follow 37 (.iconst 2) 1 38 := ⟨by decide +kernel, rfl⟩
theorem d_X11_follow_38 : gd cX11_follow 38 (.invokestatic 123) 3 41 := ⟨by decide +kernel, rfl⟩
theorem d_X11_follow_41 : gd cX11_follow 41 (.ifCond .ne 6) 3 44 := ⟨by decide +kernel, rfl⟩
theorem d_X11_follow_44 : gd cX11_follow 44 (.ldc 231) 2 46 := ⟨by decide +kernel, rfl⟩
theorem d_X11_follow_46 : gd cX11_follow 46 .ireturn 1 47 := ⟨by decide +kernel, rfl⟩
theorem d_X11_follow_47 : gd cX11_follow 47 (.aload_n 0) 1 48 := ⟨by decide +kernel, rfl⟩
theorem d_X11_follow_48 : gd cX11_follow 48 (.iload_n 1) 1 49 := ⟨by decide +kernel, rfl⟩
theorem d_X11_follow_49 : gd cX11_follow 49 (.iload_n 2) 1 50 := ⟨by decide +kernel, rfl⟩
theorem d_X11_follow_50 : gd cX11_follow 50 (.iload_n 3) 1 51 := ⟨by decide +kernel, rfl⟩
theorem d_X11_follow_51 : gd cX11_follow 51 (.iload 4) 2 53 := ⟨by decide +kernel, rfl⟩
theorem d_X11_follow_53 : gd cX11_follow 53 (.invokevirtual 376) 3 56 := ⟨by decide +kernel, rfl⟩
theorem d_X11_follow_56 : gd cX11_follow 56 (.aload_n 0) 1 57 := ⟨by decide +kernel, rfl⟩
theorem d_X11_follow_57 : gd cX11_follow 57 (.getfield 107) 3 60 := ⟨by decide +kernel, rfl⟩
theorem d_X11_follow_60 : gd cX11_follow 60 (.iload 5) 2 62 := ⟨by decide +kernel, rfl⟩
theorem d_X11_follow_62 : gd cX11_follow 62 .iaload 1 63 := ⟨by decide +kernel, rfl⟩
theorem d_X11_follow_63 : gd cX11_follow 63 .ireturn 1 64 := ⟨by decide +kernel, rfl⟩
def D_X11_follow (x1 : Int32) (x2 : Int32) (x3 : Int32) (x4 : Int32) (x5 : Int32) (μ : gs_M) : Option (Int32 × gs_M) :=
  bd (D_X11_isReady μ) (fun v3 u2 => if v3 = 0 then (some ((-1000000 : Int32), u2)) else (bd (D_X11_within x1 (0 : Int32) ((gI u2 16 1) - (1 : Int32)) u2) (fun v7 u6 => if v7 = 0 then (some ((-1000000 : Int32), u6)) else (bd (D_X11_isVoyage x2 x3 x4 u6) (fun v11 u10 => if v11 = 0 then (some ((-1000000 : Int32), u10)) else (bd (D_X11_within x5 (0 : Int32) (2 : Int32) u10) (fun v15 u14 => if v15 = 0 then (some ((-1000000 : Int32), u14)) else (bd0 (D_X11_followRule x1 x2 x3 x4 u14) (fun u18 => ck (inb x5 3) (some (gI u18 76 (Int32.toNatClampNeg x5), u18)))))))))))
section S_X11_follow
variable {p : Program} {l : Launch} {e : Env} {R : Room} {s : State} {m : MethodId} {args : Array Value} {below : List Frame} {meth : Method} {c : Code} {ad : Nat → Nat} {g : va_G} {tyc : Nat → ClassId}
set_option maxRecDepth 20000 in
theorem C_X11_follow  {x1 : Int32} {x2 : Int32} {x3 : Int32} {x4 : Int32} {x5 : Int32} {μ : gs_M} {r : Int32} {μ2 : gs_M}  (hD : D_X11_follow x1 x2 x3 x4 x5 μ = some (r, μ2)) : CALL yX11_follow cX11_follow 6 (some .int) 7 [.ref 0, .int x1, .int x2, .int x3, .int x4, .int x5] μ (some (.int r)) μ2 := by
  unfold D_X11_follow at hD
  refine gs_enter mf_X11_follow (Nat.le_of_ble_eq_true rfl) (ls := [.ref 0, .int x1, .int x2, .int x3, .int x4, .int x5]) rfl (fun p l e R s m args below meth c ad g tyc hK => ?_)
  have hK : KC p R s m args meth c ad g tyc RX11 cX11_follow 6 (some .int) 7 := hK
  refine r_aload_n hK d_X11_follow_0 rfl rfl ?_
  obtain ⟨v3, u2, e1, hD⟩ := bd_e hD
  refine r_callV (As := []) (st := []) (stk2 := [.int v3]) hK (C_X11_isReady  e1) d_X11_follow_1 mf_X11_isReady ml_RX11_206 im_X11_isReady rfl se_10_RX11_X11_isReady kd_0 rfl (Nat.le_of_ble_eq_true rfl) (by decide) ⟨Nat.zero_le _, Nat.zero_le _⟩ rfl rfl ?_
  refine r_if_eq (tgt := 44) hK d_X11_follow_4 (by decide) (fun h4 => ?_) (fun h4 => ?_)
  · have hD := if_t hD h4
    refine r_ldc hK d_X11_follow_44 kc_RX11_231 ?_
    cases hD
    exact r_iret hK d_X11_follow_46
  · have hD := if_f hD h4
    refine r_iload_n hK d_X11_follow_7 rfl rfl ?_
    refine r_iconst hK d_X11_follow_8 ci_0 ?_
    refine r_aload_n hK d_X11_follow_9 rfl rfl ?_
    refine r_getR hK d_X11_follow_10 fl_RX11_50_10 rfl kd_0 ?_
    refine r_ref (b := 16) R0_0_6 ?_
    refine r_getI hK d_X11_follow_13 fl_RX11_373_5 rfl kd_16 ?_
    refine r_iconst hK d_X11_follow_16 ci_1 ?_
    refine r_isub hK d_X11_follow_17 ?_
    obtain ⟨v7, u6, e5, hD⟩ := bd_e hD
    refine r_callS (As := [.int x1, .int (0 : Int32), .int ((gI u2 16 1) - (1 : Int32))]) (st := []) (stk2 := [.int v7]) hK (C_X11_within  e5) d_X11_follow_18 mf_X11_within ml_RX11_123 ss_X11_within rfl (Nat.le_of_ble_eq_true rfl) (by decide) ⟨Nat.zero_le _, Nat.zero_le _⟩ rfl rfl ?_
    refine r_if_eq (tgt := 44) hK d_X11_follow_21 (by decide) (fun h8 => ?_) (fun h8 => ?_)
    · have hD := if_t hD h8
      refine r_ldc hK d_X11_follow_44 kc_RX11_231 ?_
      cases hD
      exact r_iret hK d_X11_follow_46
    · have hD := if_f hD h8
      refine r_iload_n hK d_X11_follow_24 rfl rfl ?_
      refine r_iload_n hK d_X11_follow_25 rfl rfl ?_
      refine r_iload hK d_X11_follow_26 rfl ?_
      obtain ⟨v11, u10, e9, hD⟩ := bd_e hD
      refine r_callS (As := [.int x2, .int x3, .int x4]) (st := []) (stk2 := [.int v11]) hK (C_X11_isVoyage  e9) d_X11_follow_28 mf_X11_isVoyage ml_RX11_304 ss_X11_isVoyage rfl (Nat.le_of_ble_eq_true rfl) (by decide) ⟨Nat.zero_le _, Nat.zero_le _⟩ rfl rfl ?_
      refine r_if_eq (tgt := 44) hK d_X11_follow_31 (by decide) (fun h12 => ?_) (fun h12 => ?_)
      · have hD := if_t hD h12
        refine r_ldc hK d_X11_follow_44 kc_RX11_231 ?_
        cases hD
        exact r_iret hK d_X11_follow_46
      · have hD := if_f hD h12
        refine r_iload hK d_X11_follow_34 rfl ?_
        refine r_iconst hK d_X11_follow_36 ci_0 ?_
        refine r_iconst hK d_X11_follow_37 ci_2 ?_
        obtain ⟨v15, u14, e13, hD⟩ := bd_e hD
        refine r_callS (As := [.int x5, .int (0 : Int32), .int (2 : Int32)]) (st := []) (stk2 := [.int v15]) hK (C_X11_within  e13) d_X11_follow_38 mf_X11_within ml_RX11_123 ss_X11_within rfl (Nat.le_of_ble_eq_true rfl) (by decide) ⟨Nat.zero_le _, Nat.zero_le _⟩ rfl rfl ?_
        refine r_if_ne (tgt := 47) hK d_X11_follow_41 (by decide) (fun h16 => ?_) (fun h16 => ?_)
        · have hD := if_f hD h16
          refine r_aload_n hK d_X11_follow_47 rfl rfl ?_
          refine r_iload_n hK d_X11_follow_48 rfl rfl ?_
          refine r_iload_n hK d_X11_follow_49 rfl rfl ?_
          refine r_iload_n hK d_X11_follow_50 rfl rfl ?_
          refine r_iload hK d_X11_follow_51 rfl ?_
          obtain ⟨u18, e17, hD⟩ := bd0_e hD
          refine r_callV (As := [.int x1, .int x2, .int x3, .int x4]) (st := []) (stk2 := []) hK (C_X11_followRule  e17) d_X11_follow_53 mf_X11_followRule ml_RX11_376 im_X11_followRule rfl se_10_RX11_X11_followRule kd_0 rfl (Nat.le_of_ble_eq_true rfl) (by decide) ⟨Nat.zero_le _, Nat.zero_le _⟩ rfl rfl ?_
          refine r_aload_n hK d_X11_follow_56 rfl rfl ?_
          refine r_getR hK d_X11_follow_57 fl_RX11_107_10 rfl kd_0 ?_
          refine r_ref (b := 76) R0_0_18 ?_
          refine r_iload hK d_X11_follow_60 rfl ?_
          obtain ⟨h19, hD⟩ := ck_e hD
          refine r_iald hK d_X11_follow_62 kd_76 ln_76 (inb_in h19) ?_
          cases hD
          exact r_iret hK d_X11_follow_63
        · have hD := if_t hD h16
          refine r_ldc hK d_X11_follow_44 kc_RX11_231 ?_
          cases hD
          exact r_iret hK d_X11_follow_46
end S_X11_follow
theorem d_X11_isBestOutcome_0 : gd cX11_isBestOutcome 0 (.iconst 0) 1 1 := ⟨by decide +kernel, rfl⟩
theorem d_X11_isBestOutcome_1 : gd cX11_isBestOutcome 1 (.istore_n 1) 1 2 := ⟨by decide +kernel, rfl⟩
theorem d_X11_isBestOutcome_2 : gd cX11_isBestOutcome 2 (.iload_n 1) 1 3 := ⟨by decide +kernel, rfl⟩
theorem d_X11_isBestOutcome_3 : gd cX11_isBestOutcome 3 (.iconst 3) 1 4 := ⟨by decide +kernel, rfl⟩
theorem d_X11_isBestOutcome_4 : gd cX11_isBestOutcome 4 (.if_icmp .ge 45) 3 7 := ⟨by decide +kernel, rfl⟩
theorem d_X11_isBestOutcome_7 : gd cX11_isBestOutcome 7 (.aload_n 0) 1 8 := ⟨by decide +kernel, rfl⟩
theorem d_X11_isBestOutcome_8 : gd cX11_isBestOutcome 8 (.getfield 107) 3 11 := ⟨by decide +kernel, rfl⟩
theorem d_X11_isBestOutcome_11 : gd cX11_isBestOutcome 11 (.iload_n 1) 1 12 := ⟨by decide +kernel, rfl⟩
theorem d_X11_isBestOutcome_12 : gd cX11_isBestOutcome 12 .iaload 1 13 := ⟨by decide +kernel, rfl⟩
theorem d_X11_isBestOutcome_13 : gd cX11_isBestOutcome 13 (.aload_n 0) 1 14 := ⟨by decide +kernel, rfl⟩
theorem d_X11_isBestOutcome_14 : gd cX11_isBestOutcome 14 (.getfield 110) 3 17 := ⟨by decide +kernel, rfl⟩
theorem d_X11_isBestOutcome_17 : gd cX11_isBestOutcome 17 (.iload_n 1) 1 18 := ⟨by decide +kernel, rfl⟩
theorem d_X11_isBestOutcome_18 : gd cX11_isBestOutcome 18 .iaload 1 19 := ⟨by decide +kernel, rfl⟩
theorem d_X11_isBestOutcome_19 : gd cX11_isBestOutcome 19 (.if_icmp .eq 24) 3 22 := ⟨by decide +kernel, rfl⟩
theorem d_X11_isBestOutcome_22 : gd cX11_isBestOutcome 22 (.aload_n 0) 1 23 := ⟨by decide +kernel, rfl⟩
theorem d_X11_isBestOutcome_23 : gd cX11_isBestOutcome 23 (.getfield 107) 3 26 := ⟨by decide +kernel, rfl⟩
theorem d_X11_isBestOutcome_26 : gd cX11_isBestOutcome 26 (.iload_n 1) 1 27 := ⟨by decide +kernel, rfl⟩
theorem d_X11_isBestOutcome_27 : gd cX11_isBestOutcome 27 .iaload 1 28 := ⟨by decide +kernel, rfl⟩
theorem d_X11_isBestOutcome_28 : gd cX11_isBestOutcome 28 (.aload_n 0) 1 29 := ⟨by decide +kernel, rfl⟩
theorem d_X11_isBestOutcome_29 : gd cX11_isBestOutcome 29 (.getfield 110) 3 32 := ⟨by decide +kernel, rfl⟩
theorem d_X11_isBestOutcome_32 : gd cX11_isBestOutcome 32 (.iload_n 1) 1 33 := ⟨by decide +kernel, rfl⟩
theorem d_X11_isBestOutcome_33 : gd cX11_isBestOutcome 33 .iaload 1 34 := ⟨by decide +kernel, rfl⟩
theorem d_X11_isBestOutcome_34 : gd cX11_isBestOutcome 34 (.if_icmp .ge 7) 3 37 := ⟨by decide +kernel, rfl⟩
theorem d_X11_isBestOutcome_37 : gd cX11_isBestOutcome 37 (.iconst 1) 1 38 := ⟨by decide +kernel, rfl⟩
theorem d_X11_isBestOutcome_38 : gd cX11_isBestOutcome 38 (.goto 4) 3 41 := ⟨by decide +kernel, rfl⟩
theorem d_X11_isBestOutcome_41 : gd cX11_isBestOutcome 41 (.iconst 0) 1 42 := ⟨by decide +kernel, rfl⟩
theorem d_X11_isBestOutcome_42 : gd cX11_isBestOutcome 42 .ireturn 1 43 := ⟨by decide +kernel, rfl⟩
theorem d_X11_isBestOutcome_43 : gd cX11_isBestOutcome 43 (.iinc 1 1) 3 46 := ⟨by decide +kernel, rfl⟩
theorem d_X11_isBestOutcome_46 : gd cX11_isBestOutcome 46 (.goto (-44)) 3 49 := ⟨by decide +kernel, rfl⟩
theorem d_X11_isBestOutcome_49 : gd cX11_isBestOutcome 49 (.iconst 0) 1 50 := ⟨by decide +kernel, rfl⟩
theorem d_X11_isBestOutcome_50 : gd cX11_isBestOutcome 50 .ireturn 1 51 := ⟨by decide +kernel, rfl⟩
def Bo_X11_isBestOutcome_2 (q2 : Int32 → gs_M → Option (Int32 × gs_M)) (x1 : Int32) (μ : gs_M) : Option (Int32 × gs_M) :=
  if (3 : Int32) ≤ x1 then (some ((0 : Int32), μ)) else (ck (inb x1 3) (ck (inb x1 3) (if (gI μ 76 (Int32.toNatClampNeg x1)) = (gI μ 77 (Int32.toNatClampNeg x1)) then (q2 (x1 + (1 : Int32)) μ) else (ck (inb x1 3) (ck (inb x1 3) (if (gI μ 77 (Int32.toNatClampNeg x1)) ≤ (gI μ 76 (Int32.toNatClampNeg x1)) then (some ((0 : Int32), μ)) else (some ((1 : Int32), μ))))))))
def L_X11_isBestOutcome_2  : Nat → Int32 → gs_M → Option (Int32 × gs_M)
  | 0 => fun _ _ => none
  | n + 1 => fun x1 μ => Bo_X11_isBestOutcome_2  (L_X11_isBestOutcome_2  n) x1 μ
def D_X11_isBestOutcome  (μ : gs_M) : Option (Int32 × gs_M) :=
  L_X11_isBestOutcome_2 4096 (0 : Int32) μ
section S_X11_isBestOutcome
variable {p : Program} {l : Launch} {e : Env} {R : Room} {s : State} {m : MethodId} {args : Array Value} {below : List Frame} {meth : Method} {c : Code} {ad : Nat → Nat} {g : va_G} {tyc : Nat → ClassId}
set_option maxRecDepth 20000 in
theorem To_X11_isBestOutcome_2  (hK : KC p R s m args meth c ad g tyc RX11 cX11_isBestOutcome 2 (some .boolean) 0) {r : Int32} {μ2 : gs_M} {q2 : Int32 → gs_M → Option (Int32 × gs_M)} (hq2 : ∀ (x1 : Int32) (μ : gs_M), q2 x1 μ = some (r, μ2) → WJ p l e R s m args below meth c 0 0 (MQ below (gs_Q ad g tyc (some (.int r)) μ2) args s 0 0 (gs_A ad)) ad g tyc 2 2 [.ref 0, .int x1] [] μ) {x1 : Int32} {μ : gs_M}  (hD : Bo_X11_isBestOutcome_2 q2 x1 μ = some (r, μ2)) : WJ p l e R s m args below meth c 0 0 (MQ below (gs_Q ad g tyc (some (.int r)) μ2) args s 0 0 (gs_A ad)) ad g tyc 2 2 [.ref 0, .int x1] [] μ := by
  unfold Bo_X11_isBestOutcome_2 at hD
  refine r_iload_n hK d_X11_isBestOutcome_2 rfl rfl ?_
  refine r_iconst hK d_X11_isBestOutcome_3 ci_3 ?_
  refine r_icmp_ge (tgt := 49) hK d_X11_isBestOutcome_4 (by decide) (fun h1 => ?_) (fun h1 => ?_)
  · have hD := if_t hD h1
    refine r_iconst hK d_X11_isBestOutcome_49 ci_0 ?_
    cases hD
    exact r_zret hK (Or.inl rfl) d_X11_isBestOutcome_50
  · have hD := if_f hD h1
    refine r_aload_n hK d_X11_isBestOutcome_7 rfl rfl ?_
    refine r_getR hK d_X11_isBestOutcome_8 fl_RX11_107_10 rfl kd_0 ?_
    refine r_ref (b := 76) R0_0_18 ?_
    refine r_iload_n hK d_X11_isBestOutcome_11 rfl rfl ?_
    obtain ⟨h2, hD⟩ := ck_e hD
    refine r_iald hK d_X11_isBestOutcome_12 kd_76 ln_76 (inb_in h2) ?_
    refine r_aload_n hK d_X11_isBestOutcome_13 rfl rfl ?_
    refine r_getR hK d_X11_isBestOutcome_14 fl_RX11_110_10 rfl kd_0 ?_
    refine r_ref (b := 77) R0_0_19 ?_
    refine r_iload_n hK d_X11_isBestOutcome_17 rfl rfl ?_
    obtain ⟨h3, hD⟩ := ck_e hD
    refine r_iald hK d_X11_isBestOutcome_18 kd_77 ln_77 (inb_in h3) ?_
    refine r_icmp_eq (tgt := 43) hK d_X11_isBestOutcome_19 (by decide) (fun h4 => ?_) (fun h4 => ?_)
    · have hD := if_t hD h4
      refine r_iinc hK d_X11_isBestOutcome_43 rfl (v := x1 + (1 : Int32)) (by rw [ci_1]) (by decide) (ls2 := [.ref 0, .int (x1 + (1 : Int32))]) rfl ?_
      refine r_goto (tgt := 2) hK d_X11_isBestOutcome_46 (by decide) ?_
      exact hq2 _ _  hD
    · have hD := if_f hD h4
      refine r_aload_n hK d_X11_isBestOutcome_22 rfl rfl ?_
      refine r_getR hK d_X11_isBestOutcome_23 fl_RX11_107_10 rfl kd_0 ?_
      refine r_ref (b := 76) R0_0_18 ?_
      refine r_iload_n hK d_X11_isBestOutcome_26 rfl rfl ?_
      obtain ⟨h5, hD⟩ := ck_e hD
      refine r_iald hK d_X11_isBestOutcome_27 kd_76 ln_76 (inb_in h5) ?_
      refine r_aload_n hK d_X11_isBestOutcome_28 rfl rfl ?_
      refine r_getR hK d_X11_isBestOutcome_29 fl_RX11_110_10 rfl kd_0 ?_
      refine r_ref (b := 77) R0_0_19 ?_
      refine r_iload_n hK d_X11_isBestOutcome_32 rfl rfl ?_
      obtain ⟨h6, hD⟩ := ck_e hD
      refine r_iald hK d_X11_isBestOutcome_33 kd_77 ln_77 (inb_in h6) ?_
      refine r_icmp_ge (tgt := 41) hK d_X11_isBestOutcome_34 (by decide) (fun h7 => ?_) (fun h7 => ?_)
      · have hD := if_t hD h7
        refine r_iconst hK d_X11_isBestOutcome_41 ci_0 ?_
        cases hD
        exact r_zret hK (Or.inl rfl) d_X11_isBestOutcome_42
      · have hD := if_f hD h7
        refine r_iconst hK d_X11_isBestOutcome_37 ci_1 ?_
        refine r_goto (tgt := 42) hK d_X11_isBestOutcome_38 (by decide) ?_
        cases hD
        exact r_zret hK (Or.inr rfl) d_X11_isBestOutcome_42
set_option maxRecDepth 20000 in
theorem TL_X11_isBestOutcome_2  (hK : KC p R s m args meth c ad g tyc RX11 cX11_isBestOutcome 2 (some .boolean) 0) {r : Int32} {μ2 : gs_M}   : ∀ (n : Nat) (x1 : Int32) (μ : gs_M), L_X11_isBestOutcome_2  n x1 μ = some (r, μ2) → WJ p l e R s m args below meth c 0 0 (MQ below (gs_Q ad g tyc (some (.int r)) μ2) args s 0 0 (gs_A ad)) ad g tyc 2 2 [.ref 0, .int x1] [] μ := by
  intro n
  induction n with
  | zero => intro x1 μ  hD; cases hD
  | succ n ih => intro x1 μ  hD; exact To_X11_isBestOutcome_2 hK  ih  hD
set_option maxRecDepth 20000 in
theorem C_X11_isBestOutcome   {μ : gs_M} {r : Int32} {μ2 : gs_M}  (hD : D_X11_isBestOutcome  μ = some (r, μ2)) : CALL yX11_isBestOutcome cX11_isBestOutcome 2 (some .boolean) 0 [.ref 0] μ (some (.int r)) μ2 := by
  unfold D_X11_isBestOutcome at hD
  refine gs_enter mf_X11_isBestOutcome (Nat.le_of_ble_eq_true rfl) (ls := [.ref 0, gs_J]) rfl (fun p l e R s m args below meth c ad g tyc hK => ?_)
  have hK : KC p R s m args meth c ad g tyc RX11 cX11_isBestOutcome 2 (some .boolean) 0 := hK
  refine r_iconst hK d_X11_isBestOutcome_0 ci_0 ?_
  refine r_istore_n hK d_X11_isBestOutcome_1 rfl (by decide) (ls2 := [.ref 0, .int (0 : Int32)]) rfl ?_
  exact TL_X11_isBestOutcome_2 hK  _ _ _  hD
end S_X11_isBestOutcome
theorem d_X11_better_0 : gd cX11_better 0 (.aload_n 0) 1 1 := ⟨by decide +kernel, rfl⟩
theorem d_X11_better_1 : gd cX11_better 1 (.invokevirtual 206) 3 4 := ⟨by decide +kernel, rfl⟩
theorem d_X11_better_4 : gd cX11_better 4 (.ifCond .eq 12) 3 7 := ⟨by decide +kernel, rfl⟩
theorem d_X11_better_7 : gd cX11_better 7 (.iload_n 1) 1 8 := ⟨by decide +kernel, rfl⟩
theorem d_X11_better_8 : gd cX11_better 8 (.iload_n 2) 1 9 := ⟨by decide +kernel, rfl⟩
theorem d_X11_better_9 : gd cX11_better 9 (.iload_n 3) 1 10 := ⟨by decide +kernel, rfl⟩
theorem d_X11_better_10 : gd cX11_better 10 (.invokestatic 304) 3 13 := ⟨by decide +kernel, rfl⟩
theorem d_X11_better_13 : gd cX11_better 13 (.ifCond .ne 5) 3 16 := ⟨by decide +kernel, rfl⟩
theorem d_X11_better_16 : gd cX11_better 16 (.iconst (-1)) 1 17 := ⟨by decide +kernel, rfl⟩
theorem d_X11_better_17 : gd cX11_better 17 .ireturn 1 18 := ⟨by decide +kernel, rfl⟩
theorem d_X11_better_18 : gd cX11_better 18 (.iconst (-1)) 1 19 := ⟨by decide +kernel, rfl⟩
theorem d_X11_better_19 : gd cX11_better 19 (.istore 4) 2 21 := ⟨by decide +kernel, rfl⟩
theorem d_X11_better_21 : gd cX11_better 21 (.iconst 0) 1 22 := ⟨by decide +kernel, rfl⟩
theorem d_X11_better_22 : gd cX11_better 22 (.istore 5) 2 24 := ⟨by decide +kernel, rfl⟩
theorem d_X11_better_24 : gd cX11_better 24 (.iload 5) 2 26 := ⟨by decide +kernel, rfl⟩
theorem d_X11_better_26 : gd cX11_better 26 (.aload_n 0) 1 27 := ⟨by decide +kernel, rfl⟩
theorem d_X11_better_27 : gd cX11_better 27 (.getfield 50) 3 30 := ⟨by decide +kernel, rfl⟩
theorem d_X11_better_30 : gd cX11_better 30 (.getfield 373) 3 33 := ⟨by decide +kernel, rfl⟩
theorem d_X11_better_33 : gd cX11_better 33 (.if_icmp .ge 64) 3 36 := ⟨by decide +kernel, rfl⟩
theorem d_X11_better_36 : gd cX11_better 36 (.aload_n 0) 1 37 := ⟨by decide +kernel, rfl⟩
theorem d_X11_better_37 : gd cX11_better 37 (.iload 5) 2 39 := ⟨by decide +kernel, rfl⟩
theorem d_X11_better_39 : gd cX11_better 39 (.iload_n 1) 1 40 := ⟨by decide +kernel, rfl⟩
theorem d_X11_better_40 : gd cX11_better 40 (.iload_n 2) 1 41 := ⟨by decide +kernel, rfl⟩
theorem d_X11_better_41 : gd cX11_better 41 (.iload_n 3) 1 42 := ⟨by decide +kernel, rfl⟩
theorem d_X11_better_42 : gd cX11_better 42 (.invokevirtual 376) 3 45 := ⟨by decide +kernel, rfl⟩
theorem d_X11_better_45 : gd cX11_better 45 (.iload 4) 2 47 := ⟨by decide +kernel, rfl⟩
theorem d_X11_better_47 : gd cX11_better 47 (.iconst (-1)) 1 48 := ⟨by decide +kernel, rfl⟩
theorem d_X11_better_48 : gd cX11_better 48 (.if_icmp .eq 10) 3 51 := ⟨by decide +kernel, rfl⟩
theorem d_X11_better_51 : gd cX11_better 51 (.aload_n 0) 1 52 := ⟨by decide +kernel, rfl⟩
theorem d_X11_better_52 : gd cX11_better 52 (.invokevirtual 395) 3 55 := ⟨by decide +kernel, rfl⟩
theorem d_X11_better_55 : gd cX11_better 55 (.ifCond .eq 36) 3 58 := ⟨by decide +kernel, rfl⟩
theorem d_X11_better_58 : gd cX11_better 58 (.iload 5) 2 60 := ⟨by decide +kernel, rfl⟩
theorem d_X11_better_60 : gd cX11_better 60 (.istore 4) 2 62 := ⟨by decide +kernel, rfl⟩
theorem d_X11_better_62 : gd cX11_better 62 (.iconst 0) 1 63 := ⟨by decide +kernel, rfl⟩
theorem d_X11_better_63 : gd cX11_better 63 (.istore 6) 2 65 := ⟨by decide +kernel, rfl⟩
theorem d_X11_better_65 : gd cX11_better 65 (.iload 6) 2 67 := ⟨by decide +kernel, rfl⟩
theorem d_X11_better_67 : gd cX11_better 67 (.iconst 3) 1 68 := ⟨by decide +kernel, rfl⟩
theorem d_X11_better_68 : gd cX11_better 68 (.if_icmp .ge 23) 3 71 := ⟨by decide +kernel, rfl⟩
theorem d_X11_better_71 : gd cX11_better 71 (.aload_n 0) 1 72 := ⟨by decide +kernel, rfl⟩
theorem d_X11_better_72 : gd cX11_better 72 (.getfield 110) 3 75 := ⟨by decide +kernel, rfl⟩
theorem d_X11_better_75 : gd cX11_better 75 (.iload 6) 2 77 := ⟨by decide +kernel, rfl⟩
theorem d_X11_better_77 : gd cX11_better 77 (.aload_n 0) 1 78 := ⟨by decide +kernel, rfl⟩
theorem d_X11_better_78 : gd cX11_better 78 (.getfield 107) 3 81 := ⟨by decide +kernel, rfl⟩
theorem d_X11_better_81 : gd cX11_better 81 (.iload 6) 2 83 := ⟨by decide +kernel, rfl⟩
theorem d_X11_better_83 : gd cX11_better 83 .iaload 1 84 := ⟨by decide +kernel, rfl⟩
theorem d_X11_better_84 : gd cX11_better 84 .iastore 1 85 := ⟨by decide +kernel, rfl⟩
theorem d_X11_better_85 : gd cX11_better 85 (.iinc 6 1) 3 88 := ⟨by decide +kernel, rfl⟩
theorem d_X11_better_88 : gd cX11_better 88 (.goto (-23)) 3 91 := ⟨by decide +kernel, rfl⟩
theorem d_X11_better_91 : gd cX11_better 91 (.iinc 5 1) 3 94 := ⟨by decide +kernel, rfl⟩
theorem d_X11_better_94 : gd cX11_better 94 (.goto (-70)) 3 97 := ⟨by decide +kernel, rfl⟩
theorem d_X11_better_97 : gd cX11_better 97 (.iload 4) 2 99 := ⟨by decide +kernel, rfl⟩
theorem d_X11_better_99 : gd cX11_better 99 .ireturn 1 100 := ⟨by decide +kernel, rfl⟩
def Bo_X11_better_65 (q24 : Int32 → Int32 → Int32 → Int32 → Int32 → gs_M → Option (Int32 × gs_M)) (q65 : Int32 → Int32 → Int32 → Int32 → Int32 → Int32 → gs_M → Option (Int32 × gs_M)) (x1 : Int32) (x2 : Int32) (x3 : Int32) (x4 : Int32) (x5 : Int32) (x6 : Int32) (μ : gs_M) : Option (Int32 × gs_M) :=
  if (3 : Int32) ≤ x6 then (q24 x1 x2 x3 x4 (x5 + (1 : Int32)) μ) else (ck (inb x6 3) (ck (inb x6 3) (lt1 (sI μ 77 (Int32.toNatClampNeg x6) (gI μ 76 (Int32.toNatClampNeg x6))) (fun u4 => q65 x1 x2 x3 x4 x5 (x6 + (1 : Int32)) u4))))
def L_X11_better_65 (q24 : Int32 → Int32 → Int32 → Int32 → Int32 → gs_M → Option (Int32 × gs_M)) : Nat → Int32 → Int32 → Int32 → Int32 → Int32 → Int32 → gs_M → Option (Int32 × gs_M)
  | 0 => fun _ _ _ _ _ _ _ => none
  | n + 1 => fun x1 x2 x3 x4 x5 x6 μ => Bo_X11_better_65 q24 (L_X11_better_65 q24 n) x1 x2 x3 x4 x5 x6 μ
def B_X11_better_58 (q24 : Int32 → Int32 → Int32 → Int32 → Int32 → gs_M → Option (Int32 × gs_M)) (x1 : Int32) (x2 : Int32) (x3 : Int32) (x5 : Int32) (μ : gs_M) : Option (Int32 × gs_M) :=
  L_X11_better_65 q24 4096 x1 x2 x3 x5 x5 (0 : Int32) μ
def Bo_X11_better_24 (q24 : Int32 → Int32 → Int32 → Int32 → Int32 → gs_M → Option (Int32 × gs_M)) (x1 : Int32) (x2 : Int32) (x3 : Int32) (x4 : Int32) (x5 : Int32) (μ : gs_M) : Option (Int32 × gs_M) :=
  if (gI μ 16 1) ≤ x5 then (some (x4, μ)) else (bd0 (D_X11_followRule x5 x1 x2 x3 μ) (fun u3 => if x4 = (-1 : Int32) then (B_X11_better_58 q24 x1 x2 x3 x5 u3) else (bd (D_X11_isBestOutcome u3) (fun v7 u6 => if v7 = 0 then (q24 x1 x2 x3 x4 (x5 + (1 : Int32)) u6) else (B_X11_better_58 q24 x1 x2 x3 x5 u6)))))
def L_X11_better_24  : Nat → Int32 → Int32 → Int32 → Int32 → Int32 → gs_M → Option (Int32 × gs_M)
  | 0 => fun _ _ _ _ _ _ => none
  | n + 1 => fun x1 x2 x3 x4 x5 μ => Bo_X11_better_24  (L_X11_better_24  n) x1 x2 x3 x4 x5 μ
def D_X11_better (x1 : Int32) (x2 : Int32) (x3 : Int32) (μ : gs_M) : Option (Int32 × gs_M) :=
  bd (D_X11_isReady μ) (fun v3 u2 => if v3 = 0 then (some ((-1 : Int32), u2)) else (bd (D_X11_isVoyage x1 x2 x3 u2) (fun v7 u6 => if v7 = 0 then (some ((-1 : Int32), u6)) else (L_X11_better_24 4096 x1 x2 x3 (-1 : Int32) (0 : Int32) u6))))
section S_X11_better
variable {p : Program} {l : Launch} {e : Env} {R : Room} {s : State} {m : MethodId} {args : Array Value} {below : List Frame} {meth : Method} {c : Code} {ad : Nat → Nat} {g : va_G} {tyc : Nat → ClassId}
set_option maxRecDepth 20000 in
theorem To_X11_better_65  (hK : KC p R s m args meth c ad g tyc RX11 cX11_better 7 (some .int) 7) {r : Int32} {μ2 : gs_M} {q24 : Int32 → Int32 → Int32 → Int32 → Int32 → gs_M → Option (Int32 × gs_M)} {q65 : Int32 → Int32 → Int32 → Int32 → Int32 → Int32 → gs_M → Option (Int32 × gs_M)} (hq24 : ∀ (x1 : Int32) (x2 : Int32) (x3 : Int32) (x4 : Int32) (x5 : Int32) (μ : gs_M), q24 x1 x2 x3 x4 x5 μ = some (r, μ2) → WJ p l e R s m args below meth c 0 0 (MQ below (gs_Q ad g tyc (some (.int r)) μ2) args s 0 0 (gs_A ad)) ad g tyc 7 24 [.ref 0, .int x1, .int x2, .int x3, .int x4, .int x5, gs_J] [] μ) (hq65 : ∀ (x1 : Int32) (x2 : Int32) (x3 : Int32) (x4 : Int32) (x5 : Int32) (x6 : Int32) (μ : gs_M), q65 x1 x2 x3 x4 x5 x6 μ = some (r, μ2) → WJ p l e R s m args below meth c 0 0 (MQ below (gs_Q ad g tyc (some (.int r)) μ2) args s 0 0 (gs_A ad)) ad g tyc 7 65 [.ref 0, .int x1, .int x2, .int x3, .int x4, .int x5, .int x6] [] μ) {x1 : Int32} {x2 : Int32} {x3 : Int32} {x4 : Int32} {x5 : Int32} {x6 : Int32} {μ : gs_M}  (hD : Bo_X11_better_65 q24 q65 x1 x2 x3 x4 x5 x6 μ = some (r, μ2)) : WJ p l e R s m args below meth c 0 0 (MQ below (gs_Q ad g tyc (some (.int r)) μ2) args s 0 0 (gs_A ad)) ad g tyc 7 65 [.ref 0, .int x1, .int x2, .int x3, .int x4, .int x5, .int x6] [] μ := by
  unfold Bo_X11_better_65 at hD
  refine r_iload hK d_X11_better_65 rfl ?_
  refine r_iconst hK d_X11_better_67 ci_3 ?_
  refine r_icmp_ge (tgt := 91) hK d_X11_better_68 (by decide) (fun h1 => ?_) (fun h1 => ?_)
  · have hD := if_t hD h1
    refine r_iinc hK d_X11_better_91 rfl (v := x5 + (1 : Int32)) (by rw [ci_1]) (by decide) (ls2 := [.ref 0, .int x1, .int x2, .int x3, .int x4, .int (x5 + (1 : Int32)), .int x6]) rfl ?_
    refine r_goto (tgt := 24) hK d_X11_better_94 (by decide) ?_
    refine r_junk [true, true, true, true, true, true, false] (ls2 := [.ref 0, .int x1, .int x2, .int x3, .int x4, .int (x5 + (1 : Int32)), gs_J]) rfl ?_
    exact hq24 _ _ _ _ _ _  hD
  · have hD := if_f hD h1
    refine r_aload_n hK d_X11_better_71 rfl rfl ?_
    refine r_getR hK d_X11_better_72 fl_RX11_110_10 rfl kd_0 ?_
    refine r_ref (b := 77) R0_0_19 ?_
    refine r_iload hK d_X11_better_75 rfl ?_
    refine r_aload_n hK d_X11_better_77 rfl rfl ?_
    refine r_getR hK d_X11_better_78 fl_RX11_107_10 rfl kd_0 ?_
    refine r_ref (b := 76) R0_0_18 ?_
    refine r_iload hK d_X11_better_81 rfl ?_
    obtain ⟨h2, hD⟩ := ck_e hD
    refine r_iald hK d_X11_better_83 kd_76 ln_76 (inb_in h2) ?_
    obtain ⟨h3, hD⟩ := ck_e hD
    refine r_iast hK d_X11_better_84 kd_77 ln_77 (inb_in h3) ?_
    refine r_ltm hD (fun u4 hD => ?_)
    refine r_iinc hK d_X11_better_85 rfl (v := x6 + (1 : Int32)) (by rw [ci_1]) (by decide) (ls2 := [.ref 0, .int x1, .int x2, .int x3, .int x4, .int x5, .int (x6 + (1 : Int32))]) rfl ?_
    refine r_goto (tgt := 65) hK d_X11_better_88 (by decide) ?_
    exact hq65 _ _ _ _ _ _ _  hD
set_option maxRecDepth 20000 in
theorem TL_X11_better_65  (hK : KC p R s m args meth c ad g tyc RX11 cX11_better 7 (some .int) 7) {r : Int32} {μ2 : gs_M} {q24 : Int32 → Int32 → Int32 → Int32 → Int32 → gs_M → Option (Int32 × gs_M)} (hq24 : ∀ (x1 : Int32) (x2 : Int32) (x3 : Int32) (x4 : Int32) (x5 : Int32) (μ : gs_M), q24 x1 x2 x3 x4 x5 μ = some (r, μ2) → WJ p l e R s m args below meth c 0 0 (MQ below (gs_Q ad g tyc (some (.int r)) μ2) args s 0 0 (gs_A ad)) ad g tyc 7 24 [.ref 0, .int x1, .int x2, .int x3, .int x4, .int x5, gs_J] [] μ) : ∀ (n : Nat) (x1 : Int32) (x2 : Int32) (x3 : Int32) (x4 : Int32) (x5 : Int32) (x6 : Int32) (μ : gs_M), L_X11_better_65 q24 n x1 x2 x3 x4 x5 x6 μ = some (r, μ2) → WJ p l e R s m args below meth c 0 0 (MQ below (gs_Q ad g tyc (some (.int r)) μ2) args s 0 0 (gs_A ad)) ad g tyc 7 65 [.ref 0, .int x1, .int x2, .int x3, .int x4, .int x5, .int x6] [] μ := by
  intro n
  induction n with
  | zero => intro x1 x2 x3 x4 x5 x6 μ  hD; cases hD
  | succ n ih => intro x1 x2 x3 x4 x5 x6 μ  hD; exact To_X11_better_65 hK hq24 ih  hD
set_option maxRecDepth 20000 in
theorem T_X11_better_58  (hK : KC p R s m args meth c ad g tyc RX11 cX11_better 7 (some .int) 7) {r : Int32} {μ2 : gs_M} {q24 : Int32 → Int32 → Int32 → Int32 → Int32 → gs_M → Option (Int32 × gs_M)} (hq24 : ∀ (x1 : Int32) (x2 : Int32) (x3 : Int32) (x4 : Int32) (x5 : Int32) (μ : gs_M), q24 x1 x2 x3 x4 x5 μ = some (r, μ2) → WJ p l e R s m args below meth c 0 0 (MQ below (gs_Q ad g tyc (some (.int r)) μ2) args s 0 0 (gs_A ad)) ad g tyc 7 24 [.ref 0, .int x1, .int x2, .int x3, .int x4, .int x5, gs_J] [] μ) {x1 : Int32} {x2 : Int32} {x3 : Int32} {x5 : Int32} {μ : gs_M}  (hD : B_X11_better_58 q24 x1 x2 x3 x5 μ = some (r, μ2)) : WJ p l e R s m args below meth c 0 0 (MQ below (gs_Q ad g tyc (some (.int r)) μ2) args s 0 0 (gs_A ad)) ad g tyc 7 58 [.ref 0, .int x1, .int x2, .int x3, gs_J, .int x5, gs_J] [] μ := by
  unfold B_X11_better_58 at hD
  refine r_iload hK d_X11_better_58 rfl ?_
  refine r_istore hK d_X11_better_60 (by decide) (ls2 := [.ref 0, .int x1, .int x2, .int x3, .int x5, .int x5, gs_J]) rfl ?_
  refine r_iconst hK d_X11_better_62 ci_0 ?_
  refine r_istore hK d_X11_better_63 (by decide) (ls2 := [.ref 0, .int x1, .int x2, .int x3, .int x5, .int x5, .int (0 : Int32)]) rfl ?_
  exact TL_X11_better_65 hK hq24 _ _ _ _ _ _ _ _  hD
set_option maxRecDepth 20000 in
theorem To_X11_better_24  (hK : KC p R s m args meth c ad g tyc RX11 cX11_better 7 (some .int) 7) {r : Int32} {μ2 : gs_M} {q24 : Int32 → Int32 → Int32 → Int32 → Int32 → gs_M → Option (Int32 × gs_M)} (hq24 : ∀ (x1 : Int32) (x2 : Int32) (x3 : Int32) (x4 : Int32) (x5 : Int32) (μ : gs_M), q24 x1 x2 x3 x4 x5 μ = some (r, μ2) → WJ p l e R s m args below meth c 0 0 (MQ below (gs_Q ad g tyc (some (.int r)) μ2) args s 0 0 (gs_A ad)) ad g tyc 7 24 [.ref 0, .int x1, .int x2, .int x3, .int x4, .int x5, gs_J] [] μ) {x1 : Int32} {x2 : Int32} {x3 : Int32} {x4 : Int32} {x5 : Int32} {μ : gs_M}  (hD : Bo_X11_better_24 q24 x1 x2 x3 x4 x5 μ = some (r, μ2)) : WJ p l e R s m args below meth c 0 0 (MQ below (gs_Q ad g tyc (some (.int r)) μ2) args s 0 0 (gs_A ad)) ad g tyc 7 24 [.ref 0, .int x1, .int x2, .int x3, .int x4, .int x5, gs_J] [] μ := by
  unfold Bo_X11_better_24 at hD
  refine r_iload hK d_X11_better_24 rfl ?_
  refine r_aload_n hK d_X11_better_26 rfl rfl ?_
  refine r_getR hK d_X11_better_27 fl_RX11_50_10 rfl kd_0 ?_
  refine r_ref (b := 16) R0_0_6 ?_
  refine r_getI hK d_X11_better_30 fl_RX11_373_5 rfl kd_16 ?_
  refine r_icmp_ge (tgt := 97) hK d_X11_better_33 (by decide) (fun h1 => ?_) (fun h1 => ?_)
  · have hD := if_t hD h1
    refine r_iload hK d_X11_better_97 rfl ?_
    cases hD
    exact r_iret hK d_X11_better_99
  · have hD := if_f hD h1
    refine r_aload_n hK d_X11_better_36 rfl rfl ?_
    refine r_iload hK d_X11_better_37 rfl ?_
    refine r_iload_n hK d_X11_better_39 rfl rfl ?_
    refine r_iload_n hK d_X11_better_40 rfl rfl ?_
    refine r_iload_n hK d_X11_better_41 rfl rfl ?_
    obtain ⟨u3, e2, hD⟩ := bd0_e hD
    refine r_callV (As := [.int x5, .int x1, .int x2, .int x3]) (st := []) (stk2 := []) hK (C_X11_followRule  e2) d_X11_better_42 mf_X11_followRule ml_RX11_376 im_X11_followRule rfl se_10_RX11_X11_followRule kd_0 rfl (Nat.le_of_ble_eq_true rfl) (by decide) ⟨Nat.zero_le _, Nat.zero_le _⟩ rfl rfl ?_
    refine r_iload hK d_X11_better_45 rfl ?_
    refine r_iconst hK d_X11_better_47 ci_m1 ?_
    refine r_icmp_eq (tgt := 58) hK d_X11_better_48 (by decide) (fun h4 => ?_) (fun h4 => ?_)
    · have hD := if_t hD h4
      refine r_junk [true, true, true, true, false, true, false] (ls2 := [.ref 0, .int x1, .int x2, .int x3, gs_J, .int x5, gs_J]) rfl ?_
      exact T_X11_better_58 hK hq24  hD
    · have hD := if_f hD h4
      refine r_aload_n hK d_X11_better_51 rfl rfl ?_
      obtain ⟨v7, u6, e5, hD⟩ := bd_e hD
      refine r_callV (As := []) (st := []) (stk2 := [.int v7]) hK (C_X11_isBestOutcome  e5) d_X11_better_52 mf_X11_isBestOutcome ml_RX11_395 im_X11_isBestOutcome rfl se_10_RX11_X11_isBestOutcome kd_0 rfl (Nat.le_of_ble_eq_true rfl) (by decide) ⟨Nat.zero_le _, Nat.zero_le _⟩ rfl rfl ?_
      refine r_if_eq (tgt := 91) hK d_X11_better_55 (by decide) (fun h8 => ?_) (fun h8 => ?_)
      · have hD := if_t hD h8
        refine r_iinc hK d_X11_better_91 rfl (v := x5 + (1 : Int32)) (by rw [ci_1]) (by decide) (ls2 := [.ref 0, .int x1, .int x2, .int x3, .int x4, .int (x5 + (1 : Int32)), gs_J]) rfl ?_
        refine r_goto (tgt := 24) hK d_X11_better_94 (by decide) ?_
        exact hq24 _ _ _ _ _ _  hD
      · have hD := if_f hD h8
        refine r_junk [true, true, true, true, false, true, false] (ls2 := [.ref 0, .int x1, .int x2, .int x3, gs_J, .int x5, gs_J]) rfl ?_
        exact T_X11_better_58 hK hq24  hD
set_option maxRecDepth 20000 in
theorem TL_X11_better_24  (hK : KC p R s m args meth c ad g tyc RX11 cX11_better 7 (some .int) 7) {r : Int32} {μ2 : gs_M}   : ∀ (n : Nat) (x1 : Int32) (x2 : Int32) (x3 : Int32) (x4 : Int32) (x5 : Int32) (μ : gs_M), L_X11_better_24  n x1 x2 x3 x4 x5 μ = some (r, μ2) → WJ p l e R s m args below meth c 0 0 (MQ below (gs_Q ad g tyc (some (.int r)) μ2) args s 0 0 (gs_A ad)) ad g tyc 7 24 [.ref 0, .int x1, .int x2, .int x3, .int x4, .int x5, gs_J] [] μ := by
  intro n
  induction n with
  | zero => intro x1 x2 x3 x4 x5 μ  hD; cases hD
  | succ n ih => intro x1 x2 x3 x4 x5 μ  hD; exact To_X11_better_24 hK  ih  hD
set_option maxRecDepth 20000 in
theorem C_X11_better  {x1 : Int32} {x2 : Int32} {x3 : Int32} {μ : gs_M} {r : Int32} {μ2 : gs_M}  (hD : D_X11_better x1 x2 x3 μ = some (r, μ2)) : CALL yX11_better cX11_better 7 (some .int) 7 [.ref 0, .int x1, .int x2, .int x3] μ (some (.int r)) μ2 := by
  unfold D_X11_better at hD
  refine gs_enter mf_X11_better (Nat.le_of_ble_eq_true rfl) (ls := [.ref 0, .int x1, .int x2, .int x3, gs_J, gs_J, gs_J]) rfl (fun p l e R s m args below meth c ad g tyc hK => ?_)
  have hK : KC p R s m args meth c ad g tyc RX11 cX11_better 7 (some .int) 7 := hK
  refine r_aload_n hK d_X11_better_0 rfl rfl ?_
  obtain ⟨v3, u2, e1, hD⟩ := bd_e hD
  refine r_callV (As := []) (st := []) (stk2 := [.int v3]) hK (C_X11_isReady  e1) d_X11_better_1 mf_X11_isReady ml_RX11_206 im_X11_isReady rfl se_10_RX11_X11_isReady kd_0 rfl (Nat.le_of_ble_eq_true rfl) (by decide) ⟨Nat.zero_le _, Nat.zero_le _⟩ rfl rfl ?_
  refine r_if_eq (tgt := 16) hK d_X11_better_4 (by decide) (fun h4 => ?_) (fun h4 => ?_)
  · have hD := if_t hD h4
    refine r_iconst hK d_X11_better_16 ci_m1 ?_
    cases hD
    exact r_iret hK d_X11_better_17
  · have hD := if_f hD h4
    refine r_iload_n hK d_X11_better_7 rfl rfl ?_
    refine r_iload_n hK d_X11_better_8 rfl rfl ?_
    refine r_iload_n hK d_X11_better_9 rfl rfl ?_
    obtain ⟨v7, u6, e5, hD⟩ := bd_e hD
    refine r_callS (As := [.int x1, .int x2, .int x3]) (st := []) (stk2 := [.int v7]) hK (C_X11_isVoyage  e5) d_X11_better_10 mf_X11_isVoyage ml_RX11_304 ss_X11_isVoyage rfl (Nat.le_of_ble_eq_true rfl) (by decide) ⟨Nat.zero_le _, Nat.zero_le _⟩ rfl rfl ?_
    refine r_if_ne (tgt := 18) hK d_X11_better_13 (by decide) (fun h8 => ?_) (fun h8 => ?_)
    · have hD := if_f hD h8
      refine r_iconst hK d_X11_better_18 ci_m1 ?_
      refine r_istore hK d_X11_better_19 (by decide) (ls2 := [.ref 0, .int x1, .int x2, .int x3, .int (-1 : Int32), gs_J, gs_J]) rfl ?_
      refine r_iconst hK d_X11_better_21 ci_0 ?_
      refine r_istore hK d_X11_better_22 (by decide) (ls2 := [.ref 0, .int x1, .int x2, .int x3, .int (-1 : Int32), .int (0 : Int32), gs_J]) rfl ?_
      exact TL_X11_better_24 hK  _ _ _ _ _ _ _  hD
    · have hD := if_t hD h8
      refine r_iconst hK d_X11_better_16 ci_m1 ?_
      cases hD
      exact r_iret hK d_X11_better_17
end S_X11_better
theorem d_X11_rules_0 : gd cX11_rules 0 (.aload_n 0) 1 1 := ⟨by decide +kernel, rfl⟩
theorem d_X11_rules_1 : gd cX11_rules 1 (.getfield 50) 3 4 := ⟨by decide +kernel, rfl⟩
theorem d_X11_rules_4 : gd cX11_rules 4 (.getfield 373) 3 7 := ⟨by decide +kernel, rfl⟩
theorem d_X11_rules_7 : gd cX11_rules 7 .ireturn 1 8 := ⟨by decide +kernel, rfl⟩
def D_X11_rules  (μ : gs_M) : Option (Int32 × gs_M) :=
  some (gI μ 16 1, μ)
section S_X11_rules
variable {p : Program} {l : Launch} {e : Env} {R : Room} {s : State} {m : MethodId} {args : Array Value} {below : List Frame} {meth : Method} {c : Code} {ad : Nat → Nat} {g : va_G} {tyc : Nat → ClassId}
set_option maxRecDepth 20000 in
theorem C_X11_rules   {μ : gs_M} {r : Int32} {μ2 : gs_M}  (hD : D_X11_rules  μ = some (r, μ2)) : CALL yX11_rules cX11_rules 1 (some .int) 0 [.ref 0] μ (some (.int r)) μ2 := by
  unfold D_X11_rules at hD
  refine gs_enter mf_X11_rules (Nat.le_of_ble_eq_true rfl) (ls := [.ref 0]) rfl (fun p l e R s m args below meth c ad g tyc hK => ?_)
  have hK : KC p R s m args meth c ad g tyc RX11 cX11_rules 1 (some .int) 0 := hK
  refine r_aload_n hK d_X11_rules_0 rfl rfl ?_
  refine r_getR hK d_X11_rules_1 fl_RX11_50_10 rfl kd_0 ?_
  refine r_ref (b := 16) R0_0_6 ?_
  refine r_getI hK d_X11_rules_4 fl_RX11_373_5 rfl kd_16 ?_
  cases hD
  exact r_iret hK d_X11_rules_7
end S_X11_rules
theorem d_X11_count_0 : gd cX11_count 0 (.iload_n 1) 1 1 := ⟨by decide +kernel, rfl⟩
theorem d_X11_count_1 : gd cX11_count 1 (.tableswitch 132 0 9 #[55, 63, 71, 79, 87, 95, 103, 111, 119, 124]) 55 56 := ⟨by decide +kernel, rfl⟩
theorem d_X11_count_56 : gd cX11_count 56 (.aload_n 0) 1 57 := ⟨by decide +kernel, rfl⟩
theorem d_X11_count_57 : gd cX11_count 57 (.getfield 37) 3 60 := ⟨by decide +kernel, rfl⟩
theorem d_X11_count_60 : gd cX11_count 60 (.getfield 310) 3 63 := ⟨by decide +kernel, rfl⟩
theorem d_X11_count_63 : gd cX11_count 63 .ireturn 1 64 := ⟨by decide +kernel, rfl⟩
theorem d_X11_count_64 : gd cX11_count 64 (.aload_n 0) 1 65 := ⟨by decide +kernel, rfl⟩
theorem d_X11_count_65 : gd cX11_count 65 (.getfield 41) 3 68 := ⟨by decide +kernel, rfl⟩
theorem d_X11_count_68 : gd cX11_count 68 (.getfield 310) 3 71 := ⟨by decide +kernel, rfl⟩
theorem d_X11_count_71 : gd cX11_count 71 .ireturn 1 72 := ⟨by decide +kernel, rfl⟩
theorem d_X11_count_72 : gd cX11_count 72 (.aload_n 0) 1 73 := ⟨by decide +kernel, rfl⟩
theorem d_X11_count_73 : gd cX11_count 73 (.getfield 44) 3 76 := ⟨by decide +kernel, rfl⟩
theorem d_X11_count_76 : gd cX11_count 76 (.getfield 310) 3 79 := ⟨by decide +kernel, rfl⟩
theorem d_X11_count_79 : gd cX11_count 79 .ireturn 1 80 := ⟨by decide +kernel, rfl⟩
theorem d_X11_count_80 : gd cX11_count 80 (.aload_n 0) 1 81 := ⟨by decide +kernel, rfl⟩
theorem d_X11_count_81 : gd cX11_count 81 (.getfield 10) 3 84 := ⟨by decide +kernel, rfl⟩
theorem d_X11_count_84 : gd cX11_count 84 (.getfield 117) 3 87 := ⟨by decide +kernel, rfl⟩
theorem d_X11_count_87 : gd cX11_count 87 .ireturn 1 88 := ⟨by decide +kernel, rfl⟩
theorem d_X11_count_88 : gd cX11_count 88 (.aload_n 0) 1 89 := ⟨by decide +kernel, rfl⟩
theorem d_X11_count_89 : gd cX11_count 89 (.getfield 57) 3 92 := ⟨by decide +kernel, rfl⟩
theorem d_X11_count_92 : gd cX11_count 92 (.getfield 157) 3 95 := ⟨by decide +kernel, rfl⟩
theorem d_X11_count_95 : gd cX11_count 95 .ireturn 1 96 := ⟨by decide +kernel, rfl⟩
theorem d_X11_count_96 : gd cX11_count 96 (.aload_n 0) 1 97 := ⟨by decide +kernel, rfl⟩
theorem d_X11_count_97 : gd cX11_count 97 (.getfield 57) 3 100 := ⟨by decide +kernel, rfl⟩
theorem d_X11_count_100 : gd cX11_count 100 (.getfield 160) 3 103 := ⟨by decide +kernel, rfl⟩
theorem d_X11_count_103 : gd cX11_count 103 .ireturn 1 104 := ⟨by decide +kernel, rfl⟩
theorem d_X11_count_104 : gd cX11_count 104 (.aload_n 0) 1 105 := ⟨by decide +kernel, rfl⟩
theorem d_X11_count_105 : gd cX11_count 105 (.getfield 57) 3 108 := ⟨by decide +kernel, rfl⟩
theorem d_X11_count_108 : gd cX11_count 108 (.getfield 163) 3 111 := ⟨by decide +kernel, rfl⟩
theorem d_X11_count_111 : gd cX11_count 111 .ireturn 1 112 := ⟨by decide +kernel, rfl⟩
theorem d_X11_count_112 : gd cX11_count 112 (.aload_n 0) 1 113 := ⟨by decide +kernel, rfl⟩
theorem d_X11_count_113 : gd cX11_count 113 (.getfield 82) 3 116 := ⟨by decide +kernel, rfl⟩
theorem d_X11_count_116 : gd cX11_count 116 (.getfield 293) 3 119 := ⟨by decide +kernel, rfl⟩
theorem d_X11_count_119 : gd cX11_count 119 .ireturn 1 120 := ⟨by decide +kernel, rfl⟩
theorem d_X11_count_120 : gd cX11_count 120 (.aload_n 0) 1 121 := ⟨by decide +kernel, rfl⟩
theorem d_X11_count_121 : gd cX11_count 121 (.getfield 93) 3 124 := ⟨by decide +kernel, rfl⟩
theorem d_X11_count_124 : gd cX11_count 124 .ireturn 1 125 := ⟨by decide +kernel, rfl⟩
theorem d_X11_count_125 : gd cX11_count 125 (.aload_n 0) 1 126 := ⟨by decide +kernel, rfl⟩
theorem d_X11_count_126 : gd cX11_count 126 (.getfield 100) 3 129 := ⟨by decide +kernel, rfl⟩
theorem d_X11_count_129 : gd cX11_count 129 (.getfield 324) 3 132 := ⟨by decide +kernel, rfl⟩
theorem d_X11_count_132 : gd cX11_count 132 .ireturn 1 133 := ⟨by decide +kernel, rfl⟩
theorem d_X11_count_133 : gd cX11_count 133 (.ldc 231) 2 135 := ⟨by decide +kernel, rfl⟩
theorem d_X11_count_135 : gd cX11_count 135 .ireturn 1 136 := ⟨by decide +kernel, rfl⟩
def D_X11_count (x1 : Int32) (μ : gs_M) : Option (Int32 × gs_M) :=
  lt1 x1 (fun v1 => if v1 = (0 : Int32) then (some (gI μ 7 3, μ)) else (if v1 = (1 : Int32) then (some (gI μ 10 3, μ)) else (if v1 = (2 : Int32) then (some (gI μ 13 3, μ)) else (if v1 = (3 : Int32) then (some (gI μ 1 1, μ)) else (if v1 = (4 : Int32) then (some (gI μ 25 0, μ)) else (if v1 = (5 : Int32) then (some (gI μ 25 1, μ)) else (if v1 = (6 : Int32) then (some (gI μ 25 2, μ)) else (if v1 = (7 : Int32) then (some (gI μ 66 2, μ)) else (if v1 = (8 : Int32) then (some (gI μ 0 15, μ)) else (if v1 = (9 : Int32) then (some (gI μ 73 1, μ)) else (some ((-1000000 : Int32), μ))))))))))))
section S_X11_count
variable {p : Program} {l : Launch} {e : Env} {R : Room} {s : State} {m : MethodId} {args : Array Value} {below : List Frame} {meth : Method} {c : Code} {ad : Nat → Nat} {g : va_G} {tyc : Nat → ClassId}
set_option maxRecDepth 20000 in
theorem C_X11_count  {x1 : Int32} {μ : gs_M} {r : Int32} {μ2 : gs_M}  (hD : D_X11_count x1 μ = some (r, μ2)) : CALL yX11_count cX11_count 2 (some .int) 0 [.ref 0, .int x1] μ (some (.int r)) μ2 := by
  unfold D_X11_count at hD
  refine gs_enter mf_X11_count (Nat.le_of_ble_eq_true rfl) (ls := [.ref 0, .int x1]) rfl (fun p l e R s m args below meth c ad g tyc hK => ?_)
  have hK : KC p R s m args meth c ad g tyc RX11 cX11_count 2 (some .int) 0 := hK
  refine r_iload_n hK d_X11_count_0 rfl rfl ?_
  refine r_lti hD (fun v1 hD => ?_)
  by_cases h2 : v1 = (0 : Int32)
  · subst h2
    have hD := if_t hD rfl
    refine r_tableIn (off := 55) (tgt := 56) hK d_X11_count_1 (by decide) (by decide) (by decide) (by decide) ?_
    refine r_aload_n hK d_X11_count_56 rfl rfl ?_
    refine r_getR hK d_X11_count_57 fl_RX11_37_10 rfl kd_0 ?_
    refine r_ref (b := 7) R0_0_3 ?_
    refine r_getI hK d_X11_count_60 fl_RX11_310_8 rfl kd_7 ?_
    cases hD
    exact r_iret hK d_X11_count_63
  have hD := if_f hD h2
  by_cases h3 : v1 = (1 : Int32)
  · subst h3
    have hD := if_t hD rfl
    refine r_tableIn (off := 63) (tgt := 64) hK d_X11_count_1 (by decide) (by decide) (by decide) (by decide) ?_
    refine r_aload_n hK d_X11_count_64 rfl rfl ?_
    refine r_getR hK d_X11_count_65 fl_RX11_41_10 rfl kd_0 ?_
    refine r_ref (b := 10) R0_0_4 ?_
    refine r_getI hK d_X11_count_68 fl_RX11_310_8 rfl kd_10 ?_
    cases hD
    exact r_iret hK d_X11_count_71
  have hD := if_f hD h3
  by_cases h4 : v1 = (2 : Int32)
  · subst h4
    have hD := if_t hD rfl
    refine r_tableIn (off := 71) (tgt := 72) hK d_X11_count_1 (by decide) (by decide) (by decide) (by decide) ?_
    refine r_aload_n hK d_X11_count_72 rfl rfl ?_
    refine r_getR hK d_X11_count_73 fl_RX11_44_10 rfl kd_0 ?_
    refine r_ref (b := 13) R0_0_5 ?_
    refine r_getI hK d_X11_count_76 fl_RX11_310_8 rfl kd_13 ?_
    cases hD
    exact r_iret hK d_X11_count_79
  have hD := if_f hD h4
  by_cases h5 : v1 = (3 : Int32)
  · subst h5
    have hD := if_t hD rfl
    refine r_tableIn (off := 79) (tgt := 80) hK d_X11_count_1 (by decide) (by decide) (by decide) (by decide) ?_
    refine r_aload_n hK d_X11_count_80 rfl rfl ?_
    refine r_getR hK d_X11_count_81 fl_RX11_10_10 rfl kd_0 ?_
    refine r_ref (b := 1) R0_0_0 ?_
    refine r_getI hK d_X11_count_84 fl_RX11_117_7 rfl kd_1 ?_
    cases hD
    exact r_iret hK d_X11_count_87
  have hD := if_f hD h5
  by_cases h6 : v1 = (4 : Int32)
  · subst h6
    have hD := if_t hD rfl
    refine r_tableIn (off := 87) (tgt := 88) hK d_X11_count_1 (by decide) (by decide) (by decide) (by decide) ?_
    refine r_aload_n hK d_X11_count_88 rfl rfl ?_
    refine r_getR hK d_X11_count_89 fl_RX11_57_10 rfl kd_0 ?_
    refine r_ref (b := 25) R0_0_7 ?_
    refine r_getI hK d_X11_count_92 fl_RX11_157_6 rfl kd_25 ?_
    cases hD
    exact r_iret hK d_X11_count_95
  have hD := if_f hD h6
  by_cases h7 : v1 = (5 : Int32)
  · subst h7
    have hD := if_t hD rfl
    refine r_tableIn (off := 95) (tgt := 96) hK d_X11_count_1 (by decide) (by decide) (by decide) (by decide) ?_
    refine r_aload_n hK d_X11_count_96 rfl rfl ?_
    refine r_getR hK d_X11_count_97 fl_RX11_57_10 rfl kd_0 ?_
    refine r_ref (b := 25) R0_0_7 ?_
    refine r_getI hK d_X11_count_100 fl_RX11_160_6 rfl kd_25 ?_
    cases hD
    exact r_iret hK d_X11_count_103
  have hD := if_f hD h7
  by_cases h8 : v1 = (6 : Int32)
  · subst h8
    have hD := if_t hD rfl
    refine r_tableIn (off := 103) (tgt := 104) hK d_X11_count_1 (by decide) (by decide) (by decide) (by decide) ?_
    refine r_aload_n hK d_X11_count_104 rfl rfl ?_
    refine r_getR hK d_X11_count_105 fl_RX11_57_10 rfl kd_0 ?_
    refine r_ref (b := 25) R0_0_7 ?_
    refine r_getI hK d_X11_count_108 fl_RX11_163_6 rfl kd_25 ?_
    cases hD
    exact r_iret hK d_X11_count_111
  have hD := if_f hD h8
  by_cases h9 : v1 = (7 : Int32)
  · subst h9
    have hD := if_t hD rfl
    refine r_tableIn (off := 111) (tgt := 112) hK d_X11_count_1 (by decide) (by decide) (by decide) (by decide) ?_
    refine r_aload_n hK d_X11_count_112 rfl rfl ?_
    refine r_getR hK d_X11_count_113 fl_RX11_82_10 rfl kd_0 ?_
    refine r_ref (b := 66) R0_0_12 ?_
    refine r_getI hK d_X11_count_116 fl_RX11_293_3 rfl kd_66 ?_
    cases hD
    exact r_iret hK d_X11_count_119
  have hD := if_f hD h9
  by_cases h10 : v1 = (8 : Int32)
  · subst h10
    have hD := if_t hD rfl
    refine r_tableIn (off := 119) (tgt := 120) hK d_X11_count_1 (by decide) (by decide) (by decide) (by decide) ?_
    refine r_aload_n hK d_X11_count_120 rfl rfl ?_
    refine r_getI hK d_X11_count_121 fl_RX11_93_10 rfl kd_0 ?_
    cases hD
    exact r_iret hK d_X11_count_124
  have hD := if_f hD h10
  by_cases h11 : v1 = (9 : Int32)
  · subst h11
    have hD := if_t hD rfl
    refine r_tableIn (off := 124) (tgt := 125) hK d_X11_count_1 (by decide) (by decide) (by decide) (by decide) ?_
    refine r_aload_n hK d_X11_count_125 rfl rfl ?_
    refine r_getR hK d_X11_count_126 fl_RX11_100_10 rfl kd_0 ?_
    refine r_ref (b := 73) R0_0_16 ?_
    refine r_getI hK d_X11_count_129 fl_RX11_324_0 rfl kd_73 ?_
    cases hD
    exact r_iret hK d_X11_count_132
  have hD := if_f hD h11
  refine r_tableOut (tgt := 133) hK d_X11_count_1 (sw_out (fun k q1 q2 => by rcases (show k = 0 ∨ k = 1 ∨ k = 2 ∨ k = 3 ∨ k = 4 ∨ k = 5 ∨ k = 6 ∨ k = 7 ∨ k = 8 ∨ k = 9 by omega) with rfl | rfl | rfl | rfl | rfl | rfl | rfl | rfl | rfl | rfl <;> assumption)) (by decide) ?_
  refine r_ldc hK d_X11_count_133 kc_RX11_231 ?_
  cases hD
  exact r_iret hK d_X11_count_135
end S_X11_count
