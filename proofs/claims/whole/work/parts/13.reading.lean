theorem fl_RX4_15_2 : gs_FL RX4 15 "GrainShift$Reading" 2 1 (RX2, TX2, 6) := ⟨rfl, by decide, gs_t 61 (by decide +kernel) (by decide +kernel), Or.inl rfl⟩
theorem fl_RX4_19_2 : gs_FL RX4 19 "GrainShift$Reading" 2 2 (RX2, TX2, 6) := ⟨rfl, by decide, gs_t 66 (by decide +kernel) (by decide +kernel), Or.inl rfl⟩
theorem mf_X4_begin : gs_MF yX4_begin cX4_begin 1 none 0 := ⟨gs_t 392 (by decide +kernel) (by decide +kernel), gs_t 3 (by decide +kernel) (by decide +kernel), by decide, by decide, by decide +kernel, by decide, by decide⟩
theorem fl_RX4_15_4 : gs_FL RX4 15 "GrainShift$Reading" 4 1 (RX5, TX5, 5) := ⟨rfl, by decide, gs_t 61 (by decide +kernel) (by decide +kernel), Or.inl rfl⟩
theorem fl_RX4_19_4 : gs_FL RX4 19 "GrainShift$Reading" 4 2 (RX5, TX5, 5) := ⟨rfl, by decide, gs_t 66 (by decide +kernel) (by decide +kernel), Or.inl rfl⟩
theorem fl_RX4_9_2 : gs_FL RX4 9 "GrainShift$Reading" 2 0 (RX2, TX2, 6) := ⟨rfl, by decide, gs_t 60 (by decide +kernel) (by decide +kernel), Or.inl rfl⟩
theorem se_7_RX8_X8_signAt : Cond.selects RX8 yX8_signAt yX8_signAt ∈ gs_tbl := gs_t 417 (by decide +kernel) (by decide +kernel)
theorem ml_RX4_22 : Cond.methodLink RX4 22 yX8_signAt ∈ gs_tbl := gs_t 415 (by decide +kernel) (by decide +kernel)
theorem im_X8_signAt : Cond.instanceMethod yX8_signAt ∈ gs_tbl := gs_t 416 (by decide +kernel) (by decide +kernel)
theorem mf_X4_next : gs_MF yX4_next cX4_next 1 (some .int) 0 := ⟨gs_t 414 (by decide +kernel) (by decide +kernel), gs_t 3 (by decide +kernel) (by decide +kernel), by decide, by decide, by decide +kernel, by decide, by decide⟩
theorem fl_RX4_9_4 : gs_FL RX4 9 "GrainShift$Reading" 4 0 (RX5, TX5, 5) := ⟨rfl, by decide, gs_t 60 (by decide +kernel) (by decide +kernel), Or.inl rfl⟩
theorem mf_X4_isSound : gs_MF yX4_isSound cX4_isSound 1 (some .boolean) 0 := ⟨gs_t 442 (by decide +kernel) (by decide +kernel), gs_t 3 (by decide +kernel) (by decide +kernel), by decide, by decide, by decide +kernel, by decide, by decide⟩
theorem mf_X4_failAt : gs_MF yX4_failAt cX4_failAt 2 none 1 := ⟨gs_t 424 (by decide +kernel) (by decide +kernel), gs_t 3 (by decide +kernel) (by decide +kernel), by decide, by decide, by decide +kernel, by decide, by decide⟩
theorem se_2_RX4_X4_next : Cond.selects RX2 yX4_next yX4_next ∈ gs_tbl := gs_t 412 (by decide +kernel) (by decide +kernel)
theorem ml_RX4_28 : Cond.methodLink RX4 28 yX4_next ∈ gs_tbl := gs_t 409 (by decide +kernel) (by decide +kernel)
theorem im_X4_next : Cond.instanceMethod yX4_next ∈ gs_tbl := gs_t 410 (by decide +kernel) (by decide +kernel)
theorem mf_X4_accept : gs_MF yX4_accept cX4_accept 2 (some .boolean) 1 := ⟨gs_t 408 (by decide +kernel) (by decide +kernel), gs_t 3 (by decide +kernel) (by decide +kernel), by decide, by decide, by decide +kernel, by decide, by decide⟩
theorem se_4_RX4_X4_next : Cond.selects RX5 yX4_next yX4_next ∈ gs_tbl := gs_t 413 (by decide +kernel) (by decide +kernel)
theorem se_2_RX4_X4_accept : Cond.selects RX2 yX4_accept yX4_accept ∈ gs_tbl := gs_t 406 (by decide +kernel) (by decide +kernel)
theorem ml_RX4_32 : Cond.methodLink RX4 32 yX4_accept ∈ gs_tbl := gs_t 403 (by decide +kernel) (by decide +kernel)
theorem im_X4_accept : Cond.instanceMethod yX4_accept ∈ gs_tbl := gs_t 404 (by decide +kernel) (by decide +kernel)
theorem se_2_RX4_X4_failAt : Cond.selects RX2 yX4_failAt yX4_failAt ∈ gs_tbl := gs_t 422 (by decide +kernel) (by decide +kernel)
theorem ml_RX4_36 : Cond.methodLink RX4 36 yX4_failAt ∈ gs_tbl := gs_t 419 (by decide +kernel) (by decide +kernel)
theorem im_X4_failAt : Cond.instanceMethod yX4_failAt ∈ gs_tbl := gs_t 420 (by decide +kernel) (by decide +kernel)
theorem mf_X4_expect : gs_MF yX4_expect cX4_expect 2 none 1 := ⟨gs_t 402 (by decide +kernel) (by decide +kernel), gs_t 3 (by decide +kernel) (by decide +kernel), by decide, by decide, by decide +kernel, by decide, by decide⟩
theorem se_4_RX4_X4_accept : Cond.selects RX5 yX4_accept yX4_accept ∈ gs_tbl := gs_t 407 (by decide +kernel) (by decide +kernel)
theorem se_4_RX4_X4_failAt : Cond.selects RX5 yX4_failAt yX4_failAt ∈ gs_tbl := gs_t 423 (by decide +kernel) (by decide +kernel)
theorem mn_RX4_40 : Cond.methodLinkNest RX4 40 yX11_within "GrainShift" ∈ gs_nest := gs_n 482 (by decide +kernel) (by decide +kernel)
theorem mf_X4_digits : gs_MF yX4_digits cX4_digits 4 (some .int) 1 := ⟨gs_t 481 (by decide +kernel) (by decide +kernel), gs_t 3 (by decide +kernel) (by decide +kernel), by decide, by decide, by decide +kernel, by decide, by decide⟩
theorem mf_X4_finish : gs_MF yX4_finish cX4_finish 1 (some .int) 0 := ⟨gs_t 498 (by decide +kernel) (by decide +kernel), gs_t 3 (by decide +kernel) (by decide +kernel), by decide, by decide, by decide +kernel, by decide, by decide⟩
theorem fn_RX2_62 : Cond.fieldLinkNest RX2 62 "GrainShift" "ITEM_LETTERS" "[C" "GrainShift" ∈ gs_nest := gs_n 520 (by decide +kernel) (by decide +kernel)
theorem fl_RX2_23_2 : gs_FL RX2 23 "GrainShift$ItemReading" 2 5 (RX2, TX2, 6) := ⟨rfl, by decide, gs_t 59 (by decide +kernel) (by decide +kernel), Or.inl rfl⟩
theorem mf_X2_itemOf : gs_MF yX2_itemOf cX2_itemOf 3 (some .int) 1 := ⟨gs_t 519 (by decide +kernel) (by decide +kernel), gs_t 4 (by decide +kernel) (by decide +kernel), by decide, by decide, by decide +kernel, by decide, by decide⟩
theorem se_2_RX2_X4_digits : Cond.selects RX2 ⟨"GrainShift$ItemReading", "digits", "(I)I"⟩ yX4_digits ∈ gs_tbl := gs_t 531 (by decide +kernel) (by decide +kernel)
theorem sm_RX2_X4_digits : Cond.sameMethod RX2 RX4 "digits" "(I)I" ∈ gs_tbl := gs_t 530 (by decide +kernel) (by decide +kernel)
theorem ml_RX2_66 : Cond.methodLink RX2 66 ⟨"GrainShift$ItemReading", "digits", "(I)I"⟩ ∈ gs_tbl := gs_t 529 (by decide +kernel) (by decide +kernel)
theorem im_X4_digits : Cond.instanceMethod yX4_digits ∈ gs_tbl := gs_t 480 (by decide +kernel) (by decide +kernel)
theorem se_2_RX2_X4_isSound : Cond.selects RX2 ⟨"GrainShift$ItemReading", "isSound", "()Z"⟩ yX4_isSound ∈ gs_tbl := gs_t 534 (by decide +kernel) (by decide +kernel)
theorem sm_RX2_X4_isSound : Cond.sameMethod RX2 RX4 "isSound" "()Z" ∈ gs_tbl := gs_t 533 (by decide +kernel) (by decide +kernel)
theorem ml_RX2_69 : Cond.methodLink RX2 69 ⟨"GrainShift$ItemReading", "isSound", "()Z"⟩ ∈ gs_tbl := gs_t 532 (by decide +kernel) (by decide +kernel)
theorem im_X4_isSound : Cond.instanceMethod yX4_isSound ∈ gs_tbl := gs_t 441 (by decide +kernel) (by decide +kernel)
theorem fn_RX2_73 : Cond.fieldLinkNest RX2 73 "GrainShift" "ITEM_LOWS" "[I" "GrainShift" ∈ gs_nest := gs_n 535 (by decide +kernel) (by decide +kernel)
theorem fn_RX2_76 : Cond.fieldLinkNest RX2 76 "GrainShift" "ITEM_HIGHS" "[I" "GrainShift" ∈ gs_nest := gs_n 537 (by decide +kernel) (by decide +kernel)
theorem mn_RX2_19 : Cond.methodLinkNest RX2 19 yX11_within "GrainShift" ∈ gs_nest := gs_n 506 (by decide +kernel) (by decide +kernel)
theorem fl_RX2_52_2 : gs_FL RX2 52 "GrainShift$ItemReading" 2 1 (RX2, TX2, 6) := ⟨rfl, by decide, gs_t 62 (by decide +kernel) (by decide +kernel), Or.inr (gs_t 63 (by decide +kernel) (by decide +kernel))⟩
theorem se_2_RX2_X4_failAt : Cond.selects RX2 ⟨"GrainShift$ItemReading", "failAt", "(I)V"⟩ yX4_failAt ∈ gs_tbl := gs_t 524 (by decide +kernel) (by decide +kernel)
theorem sm_RX2_X4_failAt : Cond.sameMethod RX2 RX4 "failAt" "(I)V" ∈ gs_tbl := gs_t 523 (by decide +kernel) (by decide +kernel)
theorem ml_RX2_55 : Cond.methodLink RX2 55 ⟨"GrainShift$ItemReading", "failAt", "(I)V"⟩ ∈ gs_tbl := gs_t 522 (by decide +kernel) (by decide +kernel)
theorem fl_RX2_9_2 : gs_FL RX2 9 "GrainShift$ItemReading" 2 3 (RX2, TX2, 6) := ⟨rfl, by decide, gs_t 55 (by decide +kernel) (by decide +kernel), Or.inl rfl⟩
theorem mf_X2_readNumber : gs_MF yX2_readNumber cX2_readNumber 4 none 2 := ⟨gs_t 528 (by decide +kernel) (by decide +kernel), gs_t 4 (by decide +kernel) (by decide +kernel), by decide, by decide, by decide +kernel, by decide, by decide⟩
theorem fn_RX2_42 : Cond.fieldLinkNest RX2 42 "GrainShift" "ITEM_USUAL" "[I" "GrainShift" ∈ gs_nest := gs_n 511 (by decide +kernel) (by decide +kernel)
theorem se_2_RX2_X4_next : Cond.selects RX2 ⟨"GrainShift$ItemReading", "next", "()I"⟩ yX4_next ∈ gs_tbl := gs_t 515 (by decide +kernel) (by decide +kernel)
theorem sm_RX2_X4_next : Cond.sameMethod RX2 RX4 "next" "()I" ∈ gs_tbl := gs_t 514 (by decide +kernel) (by decide +kernel)
theorem ml_RX2_45 : Cond.methodLink RX2 45 ⟨"GrainShift$ItemReading", "next", "()I"⟩ ∈ gs_tbl := gs_t 513 (by decide +kernel) (by decide +kernel)
theorem se_2_RX2_X2_itemOf : Cond.selects RX2 yX2_itemOf yX2_itemOf ∈ gs_tbl := gs_s 11 (by decide +kernel) (by decide +kernel)
theorem ml_RX2_48 : Cond.methodLink RX2 48 yX2_itemOf ∈ gs_tbl := gs_t 516 (by decide +kernel) (by decide +kernel)
theorem im_X2_itemOf : Cond.instanceMethod yX2_itemOf ∈ gs_tbl := gs_t 518 (by decide +kernel) (by decide +kernel)
theorem se_2_RX2_X2_readNumber : Cond.selects RX2 yX2_readNumber yX2_readNumber ∈ gs_tbl := gs_s 12 (by decide +kernel) (by decide +kernel)
theorem ml_RX2_58 : Cond.methodLink RX2 58 yX2_readNumber ∈ gs_tbl := gs_t 525 (by decide +kernel) (by decide +kernel)
theorem im_X2_readNumber : Cond.instanceMethod yX2_readNumber ∈ gs_tbl := gs_t 527 (by decide +kernel) (by decide +kernel)
theorem se_2_RX2_X4_accept : Cond.selects RX2 ⟨"GrainShift$ItemReading", "accept", "(I)Z"⟩ yX4_accept ∈ gs_tbl := gs_t 541 (by decide +kernel) (by decide +kernel)
theorem sm_RX2_X4_accept : Cond.sameMethod RX2 RX4 "accept" "(I)Z" ∈ gs_tbl := gs_t 540 (by decide +kernel) (by decide +kernel)
theorem ml_RX2_34 : Cond.methodLink RX2 34 ⟨"GrainShift$ItemReading", "accept", "(I)Z"⟩ ∈ gs_tbl := gs_t 539 (by decide +kernel) (by decide +kernel)
theorem mf_X2_readRow : gs_MF yX2_readRow cX2_readRow 6 none 1 := ⟨gs_t 510 (by decide +kernel) (by decide +kernel), gs_t 4 (by decide +kernel) (by decide +kernel), by decide, by decide, by decide +kernel, by decide, by decide⟩
theorem se_2_RX2_X4_begin : Cond.selects RX2 ⟨"GrainShift$ItemReading", "begin", "()V"⟩ yX4_begin ∈ gs_tbl := gs_t 505 (by decide +kernel) (by decide +kernel)
theorem sm_RX2_X4_begin : Cond.sameMethod RX2 RX4 "begin" "()V" ∈ gs_tbl := gs_t 504 (by decide +kernel) (by decide +kernel)
theorem ml_RX2_15 : Cond.methodLink RX2 15 ⟨"GrainShift$ItemReading", "begin", "()V"⟩ ∈ gs_tbl := gs_t 503 (by decide +kernel) (by decide +kernel)
theorem im_X4_begin : Cond.instanceMethod yX4_begin ∈ gs_tbl := gs_t 391 (by decide +kernel) (by decide +kernel)
theorem fl_RX2_27_2 : gs_FL RX2 27 "GrainShift$ItemReading" 2 4 (RX2, TX2, 6) := ⟨rfl, by decide, gs_t 57 (by decide +kernel) (by decide +kernel), Or.inl rfl⟩
theorem se_2_RX2_X2_readRow : Cond.selects RX2 yX2_readRow yX2_readRow ∈ gs_tbl := gs_s 10 (by decide +kernel) (by decide +kernel)
theorem ml_RX2_30 : Cond.methodLink RX2 30 yX2_readRow ∈ gs_tbl := gs_t 507 (by decide +kernel) (by decide +kernel)
theorem im_X2_readRow : Cond.instanceMethod yX2_readRow ∈ gs_tbl := gs_t 509 (by decide +kernel) (by decide +kernel)
theorem se_2_RX2_X4_finish : Cond.selects RX2 ⟨"GrainShift$ItemReading", "finish", "()I"⟩ yX4_finish ∈ gs_tbl := gs_t 544 (by decide +kernel) (by decide +kernel)
theorem sm_RX2_X4_finish : Cond.sameMethod RX2 RX4 "finish" "()I" ∈ gs_tbl := gs_t 543 (by decide +kernel) (by decide +kernel)
theorem ml_RX2_38 : Cond.methodLink RX2 38 ⟨"GrainShift$ItemReading", "finish", "()I"⟩ ∈ gs_tbl := gs_t 542 (by decide +kernel) (by decide +kernel)
theorem im_X4_finish : Cond.instanceMethod yX4_finish ∈ gs_tbl := gs_t 497 (by decide +kernel) (by decide +kernel)
theorem mf_X2_readAll : gs_MF yX2_readAll cX2_readAll 4 (some .int) 1 := ⟨gs_t 502 (by decide +kernel) (by decide +kernel), gs_t 4 (by decide +kernel) (by decide +kernel), by decide, by decide, by decide +kernel, by decide, by decide⟩
theorem d_X4_begin_0 : gd cX4_begin 0 (.aload_n 0) 1 1 := ⟨by decide +kernel, rfl⟩
theorem d_X4_begin_1 : gd cX4_begin 1 (.iconst 0) 1 2 := ⟨by decide +kernel, rfl⟩
theorem d_X4_begin_2 : gd cX4_begin 2 (.putfield 15) 3 5 := ⟨by decide +kernel, rfl⟩
theorem d_X4_begin_5 : gd cX4_begin 5 (.aload_n 0) 1 6 := ⟨by decide +kernel, rfl⟩
theorem d_X4_begin_6 : gd cX4_begin 6 (.iconst (-1)) 1 7 := ⟨by decide +kernel, rfl⟩
theorem d_X4_begin_7 : gd cX4_begin 7 (.putfield 19) 3 10 := ⟨by decide +kernel, rfl⟩
theorem d_X4_begin_10 : gd cX4_begin 10 .return_ 1 11 := ⟨by decide +kernel, rfl⟩
def D_X4_begin (a0 : Nat) (μ : gs_M) : Option (gs_M) :=
  lt1 (sI μ a0 1 (0 : Int32)) (fun u1 => lt1 (sI u1 a0 2 (-1 : Int32)) (fun u2 => some u2))
section S_X4_begin_2
variable {p : Program} {l : Launch} {e : Env} {R : Room} {s : State} {m : MethodId} {args : Array Value} {below : List Frame} {meth : Method} {c : Code} {ad : Nat → Nat} {g : va_G} {tyc : Nat → ClassId}
set_option maxRecDepth 20000 in
theorem C_X4_begin_2  {a0 : Nat} {μ : gs_M} {μ2 : gs_M} (hk0 : kd a0 = 2) (hD : D_X4_begin a0 μ = some μ2) : CALL yX4_begin cX4_begin 1 none 0 [.ref a0] μ none μ2 := by
  unfold D_X4_begin at hD
  refine gs_enter mf_X4_begin (Nat.le_of_ble_eq_true rfl) (ls := [.ref a0]) rfl (fun p l e R s m args below meth c ad g tyc hK => ?_)
  have hK : KC p R s m args meth c ad g tyc RX4 cX4_begin 1 none 0 := hK
  refine r_aload_n hK d_X4_begin_0 rfl rfl ?_
  refine r_iconst hK d_X4_begin_1 ci_0 ?_
  refine r_putI hK d_X4_begin_2 fl_RX4_15_2 rfl rfl hk0 ?_
  refine r_ltm hD (fun u1 hD => ?_)
  refine r_aload_n hK d_X4_begin_5 rfl rfl ?_
  refine r_iconst hK d_X4_begin_6 ci_m1 ?_
  refine r_putI hK d_X4_begin_7 fl_RX4_19_2 rfl rfl hk0 ?_
  refine r_ltm hD (fun u2 hD => ?_)
  cases hD
  exact r_vret hK d_X4_begin_10
end S_X4_begin_2
section S_X4_begin_4
variable {p : Program} {l : Launch} {e : Env} {R : Room} {s : State} {m : MethodId} {args : Array Value} {below : List Frame} {meth : Method} {c : Code} {ad : Nat → Nat} {g : va_G} {tyc : Nat → ClassId}
set_option maxRecDepth 20000 in
theorem C_X4_begin_4  {a0 : Nat} {μ : gs_M} {μ2 : gs_M} (hk0 : kd a0 = 4) (hD : D_X4_begin a0 μ = some μ2) : CALL yX4_begin cX4_begin 1 none 0 [.ref a0] μ none μ2 := by
  unfold D_X4_begin at hD
  refine gs_enter mf_X4_begin (Nat.le_of_ble_eq_true rfl) (ls := [.ref a0]) rfl (fun p l e R s m args below meth c ad g tyc hK => ?_)
  have hK : KC p R s m args meth c ad g tyc RX4 cX4_begin 1 none 0 := hK
  refine r_aload_n hK d_X4_begin_0 rfl rfl ?_
  refine r_iconst hK d_X4_begin_1 ci_0 ?_
  refine r_putI hK d_X4_begin_2 fl_RX4_15_4 rfl rfl hk0 ?_
  refine r_ltm hD (fun u1 hD => ?_)
  refine r_aload_n hK d_X4_begin_5 rfl rfl ?_
  refine r_iconst hK d_X4_begin_6 ci_m1 ?_
  refine r_putI hK d_X4_begin_7 fl_RX4_19_4 rfl rfl hk0 ?_
  refine r_ltm hD (fun u2 hD => ?_)
  cases hD
  exact r_vret hK d_X4_begin_10
end S_X4_begin_4
theorem d_X4_next_0 : gd cX4_next 0 (.aload_n 0) 1 1 := ⟨by decide +kernel, rfl⟩
theorem d_X4_next_1 : gd cX4_next 1 (.getfield 15) 3 4 := ⟨by decide +kernel, rfl⟩
theorem d_X4_next_4 : gd cX4_next 4 (.sipush 160) 3 7 := ⟨by decide +kernel, rfl⟩
theorem d_X4_next_7 : gd cX4_next 7 (.if_icmp .ge 32) 3 10 := ⟨by decide +kernel, rfl⟩
theorem d_X4_next_10 : gd cX4_next 10 (.aload_n 0) 1 11 := ⟨by decide +kernel, rfl⟩
theorem d_X4_next_11 : gd cX4_next 11 (.getfield 9) 3 14 := ⟨by decide +kernel, rfl⟩
theorem d_X4_next_14 : gd cX4_next 14 (.aload_n 0) 1 15 := ⟨by decide +kernel, rfl⟩
theorem d_X4_next_15 : gd cX4_next 15 (.getfield 15) 3 18 := ⟨by decide +kernel, rfl⟩
theorem d_X4_next_18 : gd cX4_next 18 (.invokevirtual 22) 3 21 := ⟨by decide +kernel, rfl⟩
theorem d_X4_next_21 : gd cX4_next 21 (.bipush 32) 2 23 := ⟨by decide +kernel, rfl⟩
theorem d_X4_next_23 : gd cX4_next 23 (.if_icmp .ne 16) 3 26 := ⟨by decide +kernel, rfl⟩
theorem d_X4_next_26 : gd cX4_next 26 (.aload_n 0) 1 27 := ⟨by decide +kernel, rfl⟩
theorem d_X4_next_27 : gd cX4_next 27 .dup 1 28 := ⟨by decide +kernel, rfl⟩
theorem d_X4_next_28 : gd cX4_next 28 (.getfield 15) 3 31 := ⟨by decide +kernel, rfl⟩
theorem d_X4_next_31 : gd cX4_next 31 (.iconst 1) 1 32 := ⟨by decide +kernel, rfl⟩
theorem d_X4_next_32 : gd cX4_next 32 .iadd 1 33 := ⟨by decide +kernel, rfl⟩
theorem d_X4_next_33 : gd cX4_next 33 (.putfield 15) 3 36 := ⟨by decide +kernel, rfl⟩
theorem d_X4_next_36 : gd cX4_next 36 (.goto (-36)) 3 39 := ⟨by decide +kernel, rfl⟩
theorem d_X4_next_39 : gd cX4_next 39 (.aload_n 0) 1 40 := ⟨by decide +kernel, rfl⟩
theorem d_X4_next_40 : gd cX4_next 40 (.getfield 9) 3 43 := ⟨by decide +kernel, rfl⟩
theorem d_X4_next_43 : gd cX4_next 43 (.aload_n 0) 1 44 := ⟨by decide +kernel, rfl⟩
theorem d_X4_next_44 : gd cX4_next 44 (.getfield 15) 3 47 := ⟨by decide +kernel, rfl⟩
theorem d_X4_next_47 : gd cX4_next 47 (.invokevirtual 22) 3 50 := ⟨by decide +kernel, rfl⟩
theorem d_X4_next_50 : gd cX4_next 50 .ireturn 1 51 := ⟨by decide +kernel, rfl⟩
def B_X4_next_39  (a0 : Nat) (μ : gs_M) : Option (Int32 × gs_M) :=
  bd (D_X8_signAt (gI μ a0 1) μ) (fun v3 u2 => some (v3, u2))
def Bo_X4_next_0 (q0 : Nat → gs_M → Option (Int32 × gs_M)) (a0 : Nat) (μ : gs_M) : Option (Int32 × gs_M) :=
  if (160 : Int32) ≤ (gI μ a0 1) then (B_X4_next_39 a0 μ) else (bd (D_X8_signAt (gI μ a0 1) μ) (fun v4 u3 => if v4 = (32 : Int32) then (lt1 (sI u3 a0 1 ((gI u3 a0 1) + (1 : Int32))) (fun u6 => q0 a0 u6)) else (B_X4_next_39 a0 u3)))
def L_X4_next_0  : Nat → Nat → gs_M → Option (Int32 × gs_M)
  | 0 => fun _ _ => none
  | n + 1 => fun a0 μ => Bo_X4_next_0  (L_X4_next_0  n) a0 μ
def D_X4_next (a0 : Nat) (μ : gs_M) : Option (Int32 × gs_M) :=
  L_X4_next_0 4096 a0 μ
section S_X4_next_2
variable {p : Program} {l : Launch} {e : Env} {R : Room} {s : State} {m : MethodId} {args : Array Value} {below : List Frame} {meth : Method} {c : Code} {ad : Nat → Nat} {g : va_G} {tyc : Nat → ClassId}
set_option maxRecDepth 20000 in
theorem T_X4_next_39_2  (hK : KC p R s m args meth c ad g tyc RX4 cX4_next 1 (some .int) 1) {r : Int32} {μ2 : gs_M}   {a0 : Nat} {μ : gs_M} (hk0 : kd a0 = 2) (hD : B_X4_next_39  a0 μ = some (r, μ2)) : WJ p l e R s m args below meth c 0 0 (MQ below (gs_Q ad g tyc (some (.int r)) μ2) args s 0 0 (gs_A ad)) ad g tyc 1 39 [.ref a0] [] μ := by
  unfold B_X4_next_39 at hD
  refine r_aload_n hK d_X4_next_39 rfl rfl ?_
  refine r_getR hK d_X4_next_40 fl_RX4_9_2 rfl hk0 ?_
  refine r_ref (b := 1) (ly_rd2 _ hk0) ?_
  refine r_aload_n hK d_X4_next_43 rfl rfl ?_
  refine r_getI hK d_X4_next_44 fl_RX4_15_2 rfl hk0 ?_
  obtain ⟨v3, u2, e1, hD⟩ := bd_e hD
  refine r_callV (As := [.int (gI μ a0 1)]) (st := []) (stk2 := [.int v3]) hK (C_X8_signAt  e1) d_X4_next_47 mf_X8_signAt ml_RX4_22 im_X8_signAt rfl se_7_RX8_X8_signAt kd_1 rfl (Nat.le_of_ble_eq_true rfl) (by decide) ⟨Nat.zero_le _, Nat.zero_le _⟩ rfl rfl ?_
  cases hD
  exact r_iret hK d_X4_next_50
set_option maxRecDepth 20000 in
theorem To_X4_next_0_2  (hK : KC p R s m args meth c ad g tyc RX4 cX4_next 1 (some .int) 1) {r : Int32} {μ2 : gs_M} {q0 : Nat → gs_M → Option (Int32 × gs_M)} (hq0 : ∀ (a0 : Nat) (μ : gs_M), kd a0 = 2 → q0 a0 μ = some (r, μ2) → WJ p l e R s m args below meth c 0 0 (MQ below (gs_Q ad g tyc (some (.int r)) μ2) args s 0 0 (gs_A ad)) ad g tyc 1 0 [.ref a0] [] μ) {a0 : Nat} {μ : gs_M} (hk0 : kd a0 = 2) (hD : Bo_X4_next_0 q0 a0 μ = some (r, μ2)) : WJ p l e R s m args below meth c 0 0 (MQ below (gs_Q ad g tyc (some (.int r)) μ2) args s 0 0 (gs_A ad)) ad g tyc 1 0 [.ref a0] [] μ := by
  unfold Bo_X4_next_0 at hD
  refine r_aload_n hK d_X4_next_0 rfl rfl ?_
  refine r_getI hK d_X4_next_1 fl_RX4_15_2 rfl hk0 ?_
  refine r_sipush hK d_X4_next_4 cs_160 ?_
  refine r_icmp_ge (tgt := 39) hK d_X4_next_7 (by decide) (fun h1 => ?_) (fun h1 => ?_)
  · have hD := if_t hD h1
    exact T_X4_next_39_2 hK  hk0 hD
  · have hD := if_f hD h1
    refine r_aload_n hK d_X4_next_10 rfl rfl ?_
    refine r_getR hK d_X4_next_11 fl_RX4_9_2 rfl hk0 ?_
    refine r_ref (b := 1) (ly_rd2 _ hk0) ?_
    refine r_aload_n hK d_X4_next_14 rfl rfl ?_
    refine r_getI hK d_X4_next_15 fl_RX4_15_2 rfl hk0 ?_
    obtain ⟨v4, u3, e2, hD⟩ := bd_e hD
    refine r_callV (As := [.int (gI μ a0 1)]) (st := []) (stk2 := [.int v4]) hK (C_X8_signAt  e2) d_X4_next_18 mf_X8_signAt ml_RX4_22 im_X8_signAt rfl se_7_RX8_X8_signAt kd_1 rfl (Nat.le_of_ble_eq_true rfl) (by decide) ⟨Nat.zero_le _, Nat.zero_le _⟩ rfl rfl ?_
    refine r_bipush hK d_X4_next_21 cb_32 ?_
    refine r_icmp_ne (tgt := 39) hK d_X4_next_23 (by decide) (fun h5 => ?_) (fun h5 => ?_)
    · have hD := if_f hD h5
      exact T_X4_next_39_2 hK  hk0 hD
    · have hD := if_t hD h5
      refine r_aload_n hK d_X4_next_26 rfl rfl ?_
      refine r_dup hK d_X4_next_27 rfl ?_
      refine r_getI hK d_X4_next_28 fl_RX4_15_2 rfl hk0 ?_
      refine r_iconst hK d_X4_next_31 ci_1 ?_
      refine r_iadd hK d_X4_next_32 ?_
      refine r_putI hK d_X4_next_33 fl_RX4_15_2 rfl rfl hk0 ?_
      refine r_ltm hD (fun u6 hD => ?_)
      refine r_goto (tgt := 0) hK d_X4_next_36 (by decide) ?_
      exact hq0 _ _ hk0 hD
set_option maxRecDepth 20000 in
theorem TL_X4_next_0_2  (hK : KC p R s m args meth c ad g tyc RX4 cX4_next 1 (some .int) 1) {r : Int32} {μ2 : gs_M}   : ∀ (n : Nat) (a0 : Nat) (μ : gs_M), kd a0 = 2 → L_X4_next_0  n a0 μ = some (r, μ2) → WJ p l e R s m args below meth c 0 0 (MQ below (gs_Q ad g tyc (some (.int r)) μ2) args s 0 0 (gs_A ad)) ad g tyc 1 0 [.ref a0] [] μ := by
  intro n
  induction n with
  | zero => intro a0 μ hk0 hD; cases hD
  | succ n ih => intro a0 μ hk0 hD; exact To_X4_next_0_2 hK  ih hk0 hD
set_option maxRecDepth 20000 in
theorem C_X4_next_2  {a0 : Nat} {μ : gs_M} {r : Int32} {μ2 : gs_M} (hk0 : kd a0 = 2) (hD : D_X4_next a0 μ = some (r, μ2)) : CALL yX4_next cX4_next 1 (some .int) 1 [.ref a0] μ (some (.int r)) μ2 := by
  unfold D_X4_next at hD
  refine gs_enter mf_X4_next (Nat.le_of_ble_eq_true rfl) (ls := [.ref a0]) rfl (fun p l e R s m args below meth c ad g tyc hK => ?_)
  have hK : KC p R s m args meth c ad g tyc RX4 cX4_next 1 (some .int) 1 := hK
  exact TL_X4_next_0_2 hK  _ _ _ hk0 hD
end S_X4_next_2
section S_X4_next_4
variable {p : Program} {l : Launch} {e : Env} {R : Room} {s : State} {m : MethodId} {args : Array Value} {below : List Frame} {meth : Method} {c : Code} {ad : Nat → Nat} {g : va_G} {tyc : Nat → ClassId}
set_option maxRecDepth 20000 in
theorem T_X4_next_39_4  (hK : KC p R s m args meth c ad g tyc RX4 cX4_next 1 (some .int) 1) {r : Int32} {μ2 : gs_M}   {a0 : Nat} {μ : gs_M} (hk0 : kd a0 = 4) (hD : B_X4_next_39  a0 μ = some (r, μ2)) : WJ p l e R s m args below meth c 0 0 (MQ below (gs_Q ad g tyc (some (.int r)) μ2) args s 0 0 (gs_A ad)) ad g tyc 1 39 [.ref a0] [] μ := by
  unfold B_X4_next_39 at hD
  refine r_aload_n hK d_X4_next_39 rfl rfl ?_
  refine r_getR hK d_X4_next_40 fl_RX4_9_4 rfl hk0 ?_
  refine r_ref (b := 1) (ly_rd4 _ hk0) ?_
  refine r_aload_n hK d_X4_next_43 rfl rfl ?_
  refine r_getI hK d_X4_next_44 fl_RX4_15_4 rfl hk0 ?_
  obtain ⟨v3, u2, e1, hD⟩ := bd_e hD
  refine r_callV (As := [.int (gI μ a0 1)]) (st := []) (stk2 := [.int v3]) hK (C_X8_signAt  e1) d_X4_next_47 mf_X8_signAt ml_RX4_22 im_X8_signAt rfl se_7_RX8_X8_signAt kd_1 rfl (Nat.le_of_ble_eq_true rfl) (by decide) ⟨Nat.zero_le _, Nat.zero_le _⟩ rfl rfl ?_
  cases hD
  exact r_iret hK d_X4_next_50
set_option maxRecDepth 20000 in
theorem To_X4_next_0_4  (hK : KC p R s m args meth c ad g tyc RX4 cX4_next 1 (some .int) 1) {r : Int32} {μ2 : gs_M} {q0 : Nat → gs_M → Option (Int32 × gs_M)} (hq0 : ∀ (a0 : Nat) (μ : gs_M), kd a0 = 4 → q0 a0 μ = some (r, μ2) → WJ p l e R s m args below meth c 0 0 (MQ below (gs_Q ad g tyc (some (.int r)) μ2) args s 0 0 (gs_A ad)) ad g tyc 1 0 [.ref a0] [] μ) {a0 : Nat} {μ : gs_M} (hk0 : kd a0 = 4) (hD : Bo_X4_next_0 q0 a0 μ = some (r, μ2)) : WJ p l e R s m args below meth c 0 0 (MQ below (gs_Q ad g tyc (some (.int r)) μ2) args s 0 0 (gs_A ad)) ad g tyc 1 0 [.ref a0] [] μ := by
  unfold Bo_X4_next_0 at hD
  refine r_aload_n hK d_X4_next_0 rfl rfl ?_
  refine r_getI hK d_X4_next_1 fl_RX4_15_4 rfl hk0 ?_
  refine r_sipush hK d_X4_next_4 cs_160 ?_
  refine r_icmp_ge (tgt := 39) hK d_X4_next_7 (by decide) (fun h1 => ?_) (fun h1 => ?_)
  · have hD := if_t hD h1
    exact T_X4_next_39_4 hK  hk0 hD
  · have hD := if_f hD h1
    refine r_aload_n hK d_X4_next_10 rfl rfl ?_
    refine r_getR hK d_X4_next_11 fl_RX4_9_4 rfl hk0 ?_
    refine r_ref (b := 1) (ly_rd4 _ hk0) ?_
    refine r_aload_n hK d_X4_next_14 rfl rfl ?_
    refine r_getI hK d_X4_next_15 fl_RX4_15_4 rfl hk0 ?_
    obtain ⟨v4, u3, e2, hD⟩ := bd_e hD
    refine r_callV (As := [.int (gI μ a0 1)]) (st := []) (stk2 := [.int v4]) hK (C_X8_signAt  e2) d_X4_next_18 mf_X8_signAt ml_RX4_22 im_X8_signAt rfl se_7_RX8_X8_signAt kd_1 rfl (Nat.le_of_ble_eq_true rfl) (by decide) ⟨Nat.zero_le _, Nat.zero_le _⟩ rfl rfl ?_
    refine r_bipush hK d_X4_next_21 cb_32 ?_
    refine r_icmp_ne (tgt := 39) hK d_X4_next_23 (by decide) (fun h5 => ?_) (fun h5 => ?_)
    · have hD := if_f hD h5
      exact T_X4_next_39_4 hK  hk0 hD
    · have hD := if_t hD h5
      refine r_aload_n hK d_X4_next_26 rfl rfl ?_
      refine r_dup hK d_X4_next_27 rfl ?_
      refine r_getI hK d_X4_next_28 fl_RX4_15_4 rfl hk0 ?_
      refine r_iconst hK d_X4_next_31 ci_1 ?_
      refine r_iadd hK d_X4_next_32 ?_
      refine r_putI hK d_X4_next_33 fl_RX4_15_4 rfl rfl hk0 ?_
      refine r_ltm hD (fun u6 hD => ?_)
      refine r_goto (tgt := 0) hK d_X4_next_36 (by decide) ?_
      exact hq0 _ _ hk0 hD
set_option maxRecDepth 20000 in
theorem TL_X4_next_0_4  (hK : KC p R s m args meth c ad g tyc RX4 cX4_next 1 (some .int) 1) {r : Int32} {μ2 : gs_M}   : ∀ (n : Nat) (a0 : Nat) (μ : gs_M), kd a0 = 4 → L_X4_next_0  n a0 μ = some (r, μ2) → WJ p l e R s m args below meth c 0 0 (MQ below (gs_Q ad g tyc (some (.int r)) μ2) args s 0 0 (gs_A ad)) ad g tyc 1 0 [.ref a0] [] μ := by
  intro n
  induction n with
  | zero => intro a0 μ hk0 hD; cases hD
  | succ n ih => intro a0 μ hk0 hD; exact To_X4_next_0_4 hK  ih hk0 hD
set_option maxRecDepth 20000 in
theorem C_X4_next_4  {a0 : Nat} {μ : gs_M} {r : Int32} {μ2 : gs_M} (hk0 : kd a0 = 4) (hD : D_X4_next a0 μ = some (r, μ2)) : CALL yX4_next cX4_next 1 (some .int) 1 [.ref a0] μ (some (.int r)) μ2 := by
  unfold D_X4_next at hD
  refine gs_enter mf_X4_next (Nat.le_of_ble_eq_true rfl) (ls := [.ref a0]) rfl (fun p l e R s m args below meth c ad g tyc hK => ?_)
  have hK : KC p R s m args meth c ad g tyc RX4 cX4_next 1 (some .int) 1 := hK
  exact TL_X4_next_0_4 hK  _ _ _ hk0 hD
end S_X4_next_4
theorem d_X4_isSound_0 : gd cX4_isSound 0 (.aload_n 0) 1 1 := ⟨by decide +kernel, rfl⟩
theorem d_X4_isSound_1 : gd cX4_isSound 1 (.getfield 19) 3 4 := ⟨by decide +kernel, rfl⟩
theorem d_X4_isSound_4 : gd cX4_isSound 4 (.iconst (-1)) 1 5 := ⟨by decide +kernel, rfl⟩
theorem d_X4_isSound_5 : gd cX4_isSound 5 (.if_icmp .ne 7) 3 8 := ⟨by decide +kernel, rfl⟩
theorem d_X4_isSound_8 : gd cX4_isSound 8 (.iconst 1) 1 9 := ⟨by decide +kernel, rfl⟩
theorem d_X4_isSound_9 : gd cX4_isSound 9 (.goto 4) 3 12 := ⟨by decide +kernel, rfl⟩
theorem d_X4_isSound_12 : gd cX4_isSound 12 (.iconst 0) 1 13 := ⟨by decide +kernel, rfl⟩
theorem d_X4_isSound_13 : gd cX4_isSound 13 .ireturn 1 14 := ⟨by decide +kernel, rfl⟩
def D_X4_isSound (a0 : Nat) (μ : gs_M) : Option (Int32 × gs_M) :=
  if (gI μ a0 2) = (-1 : Int32) then (some ((1 : Int32), μ)) else (some ((0 : Int32), μ))
section S_X4_isSound_2
variable {p : Program} {l : Launch} {e : Env} {R : Room} {s : State} {m : MethodId} {args : Array Value} {below : List Frame} {meth : Method} {c : Code} {ad : Nat → Nat} {g : va_G} {tyc : Nat → ClassId}
set_option maxRecDepth 20000 in
theorem C_X4_isSound_2  {a0 : Nat} {μ : gs_M} {r : Int32} {μ2 : gs_M} (hk0 : kd a0 = 2) (hD : D_X4_isSound a0 μ = some (r, μ2)) : CALL yX4_isSound cX4_isSound 1 (some .boolean) 0 [.ref a0] μ (some (.int r)) μ2 := by
  unfold D_X4_isSound at hD
  refine gs_enter mf_X4_isSound (Nat.le_of_ble_eq_true rfl) (ls := [.ref a0]) rfl (fun p l e R s m args below meth c ad g tyc hK => ?_)
  have hK : KC p R s m args meth c ad g tyc RX4 cX4_isSound 1 (some .boolean) 0 := hK
  refine r_aload_n hK d_X4_isSound_0 rfl rfl ?_
  refine r_getI hK d_X4_isSound_1 fl_RX4_19_2 rfl hk0 ?_
  refine r_iconst hK d_X4_isSound_4 ci_m1 ?_
  refine r_icmp_ne (tgt := 12) hK d_X4_isSound_5 (by decide) (fun h1 => ?_) (fun h1 => ?_)
  · have hD := if_f hD h1
    refine r_iconst hK d_X4_isSound_12 ci_0 ?_
    cases hD
    exact r_zret hK (Or.inl rfl) d_X4_isSound_13
  · have hD := if_t hD h1
    refine r_iconst hK d_X4_isSound_8 ci_1 ?_
    refine r_goto (tgt := 13) hK d_X4_isSound_9 (by decide) ?_
    cases hD
    exact r_zret hK (Or.inr rfl) d_X4_isSound_13
end S_X4_isSound_2
section S_X4_isSound_4
variable {p : Program} {l : Launch} {e : Env} {R : Room} {s : State} {m : MethodId} {args : Array Value} {below : List Frame} {meth : Method} {c : Code} {ad : Nat → Nat} {g : va_G} {tyc : Nat → ClassId}
set_option maxRecDepth 20000 in
theorem C_X4_isSound_4  {a0 : Nat} {μ : gs_M} {r : Int32} {μ2 : gs_M} (hk0 : kd a0 = 4) (hD : D_X4_isSound a0 μ = some (r, μ2)) : CALL yX4_isSound cX4_isSound 1 (some .boolean) 0 [.ref a0] μ (some (.int r)) μ2 := by
  unfold D_X4_isSound at hD
  refine gs_enter mf_X4_isSound (Nat.le_of_ble_eq_true rfl) (ls := [.ref a0]) rfl (fun p l e R s m args below meth c ad g tyc hK => ?_)
  have hK : KC p R s m args meth c ad g tyc RX4 cX4_isSound 1 (some .boolean) 0 := hK
  refine r_aload_n hK d_X4_isSound_0 rfl rfl ?_
  refine r_getI hK d_X4_isSound_1 fl_RX4_19_4 rfl hk0 ?_
  refine r_iconst hK d_X4_isSound_4 ci_m1 ?_
  refine r_icmp_ne (tgt := 12) hK d_X4_isSound_5 (by decide) (fun h1 => ?_) (fun h1 => ?_)
  · have hD := if_f hD h1
    refine r_iconst hK d_X4_isSound_12 ci_0 ?_
    cases hD
    exact r_zret hK (Or.inl rfl) d_X4_isSound_13
  · have hD := if_t hD h1
    refine r_iconst hK d_X4_isSound_8 ci_1 ?_
    refine r_goto (tgt := 13) hK d_X4_isSound_9 (by decide) ?_
    cases hD
    exact r_zret hK (Or.inr rfl) d_X4_isSound_13
end S_X4_isSound_4
theorem d_X4_failAt_0 : gd cX4_failAt 0 (.aload_n 0) 1 1 := ⟨by decide +kernel, rfl⟩
theorem d_X4_failAt_1 : gd cX4_failAt 1 (.getfield 19) 3 4 := ⟨by decide +kernel, rfl⟩
theorem d_X4_failAt_4 : gd cX4_failAt 4 (.iconst (-1)) 1 5 := ⟨by decide +kernel, rfl⟩
theorem d_X4_failAt_5 : gd cX4_failAt 5 (.if_icmp .ne 8) 3 8 := ⟨by decide +kernel, rfl⟩
theorem d_X4_failAt_8 : gd cX4_failAt 8 (.aload_n 0) 1 9 := ⟨by decide +kernel, rfl⟩
theorem d_X4_failAt_9 : gd cX4_failAt 9 (.iload_n 1) 1 10 := ⟨by decide +kernel, rfl⟩
theorem d_X4_failAt_10 : gd cX4_failAt 10 (.putfield 19) 3 13 := ⟨by decide +kernel, rfl⟩
theorem d_X4_failAt_13 : gd cX4_failAt 13 .return_ 1 14 := ⟨by decide +kernel, rfl⟩
def D_X4_failAt (a0 : Nat) (x1 : Int32) (μ : gs_M) : Option (gs_M) :=
  if (gI μ a0 2) = (-1 : Int32) then (lt1 (sI μ a0 2 x1) (fun u2 => some u2)) else (some μ)
section S_X4_failAt_2
variable {p : Program} {l : Launch} {e : Env} {R : Room} {s : State} {m : MethodId} {args : Array Value} {below : List Frame} {meth : Method} {c : Code} {ad : Nat → Nat} {g : va_G} {tyc : Nat → ClassId}
set_option maxRecDepth 20000 in
theorem C_X4_failAt_2  {a0 : Nat} {x1 : Int32} {μ : gs_M} {μ2 : gs_M} (hk0 : kd a0 = 2) (hD : D_X4_failAt a0 x1 μ = some μ2) : CALL yX4_failAt cX4_failAt 2 none 0 [.ref a0, .int x1] μ none μ2 := by
  unfold D_X4_failAt at hD
  refine gs_enter mf_X4_failAt (Nat.le_of_ble_eq_true rfl) (ls := [.ref a0, .int x1]) rfl (fun p l e R s m args below meth c ad g tyc hK => ?_)
  have hK : KC p R s m args meth c ad g tyc RX4 cX4_failAt 2 none 0 := hK
  refine r_aload_n hK d_X4_failAt_0 rfl rfl ?_
  refine r_getI hK d_X4_failAt_1 fl_RX4_19_2 rfl hk0 ?_
  refine r_iconst hK d_X4_failAt_4 ci_m1 ?_
  refine r_icmp_ne (tgt := 13) hK d_X4_failAt_5 (by decide) (fun h1 => ?_) (fun h1 => ?_)
  · have hD := if_f hD h1
    cases hD
    exact r_vret hK d_X4_failAt_13
  · have hD := if_t hD h1
    refine r_aload_n hK d_X4_failAt_8 rfl rfl ?_
    refine r_iload_n hK d_X4_failAt_9 rfl rfl ?_
    refine r_putI hK d_X4_failAt_10 fl_RX4_19_2 rfl rfl hk0 ?_
    refine r_ltm hD (fun u2 hD => ?_)
    cases hD
    exact r_vret hK d_X4_failAt_13
end S_X4_failAt_2
section S_X4_failAt_4
variable {p : Program} {l : Launch} {e : Env} {R : Room} {s : State} {m : MethodId} {args : Array Value} {below : List Frame} {meth : Method} {c : Code} {ad : Nat → Nat} {g : va_G} {tyc : Nat → ClassId}
set_option maxRecDepth 20000 in
theorem C_X4_failAt_4  {a0 : Nat} {x1 : Int32} {μ : gs_M} {μ2 : gs_M} (hk0 : kd a0 = 4) (hD : D_X4_failAt a0 x1 μ = some μ2) : CALL yX4_failAt cX4_failAt 2 none 0 [.ref a0, .int x1] μ none μ2 := by
  unfold D_X4_failAt at hD
  refine gs_enter mf_X4_failAt (Nat.le_of_ble_eq_true rfl) (ls := [.ref a0, .int x1]) rfl (fun p l e R s m args below meth c ad g tyc hK => ?_)
  have hK : KC p R s m args meth c ad g tyc RX4 cX4_failAt 2 none 0 := hK
  refine r_aload_n hK d_X4_failAt_0 rfl rfl ?_
  refine r_getI hK d_X4_failAt_1 fl_RX4_19_4 rfl hk0 ?_
  refine r_iconst hK d_X4_failAt_4 ci_m1 ?_
  refine r_icmp_ne (tgt := 13) hK d_X4_failAt_5 (by decide) (fun h1 => ?_) (fun h1 => ?_)
  · have hD := if_f hD h1
    cases hD
    exact r_vret hK d_X4_failAt_13
  · have hD := if_t hD h1
    refine r_aload_n hK d_X4_failAt_8 rfl rfl ?_
    refine r_iload_n hK d_X4_failAt_9 rfl rfl ?_
    refine r_putI hK d_X4_failAt_10 fl_RX4_19_4 rfl rfl hk0 ?_
    refine r_ltm hD (fun u2 hD => ?_)
    cases hD
    exact r_vret hK d_X4_failAt_13
end S_X4_failAt_4
theorem d_X4_accept_0 : gd cX4_accept 0 (.aload_n 0) 1 1 := ⟨by decide +kernel, rfl⟩
theorem d_X4_accept_1 : gd cX4_accept 1 (.getfield 19) 3 4 := ⟨by decide +kernel, rfl⟩
theorem d_X4_accept_4 : gd cX4_accept 4 (.iconst (-1)) 1 5 := ⟨by decide +kernel, rfl⟩
theorem d_X4_accept_5 : gd cX4_accept 5 (.if_icmp .ne 11) 3 8 := ⟨by decide +kernel, rfl⟩
theorem d_X4_accept_8 : gd cX4_accept 8 (.aload_n 0) 1 9 := ⟨by decide +kernel, rfl⟩
theorem d_X4_accept_9 : gd cX4_accept 9 (.invokevirtual 28) 3 12 := ⟨by decide +kernel, rfl⟩
theorem d_X4_accept_12 : gd cX4_accept 12 (.iload_n 1) 1 13 := ⟨by decide +kernel, rfl⟩
theorem d_X4_accept_13 : gd cX4_accept 13 (.if_icmp .eq 5) 3 16 := ⟨by decide +kernel, rfl⟩
theorem d_X4_accept_16 : gd cX4_accept 16 (.iconst 0) 1 17 := ⟨by decide +kernel, rfl⟩
theorem d_X4_accept_17 : gd cX4_accept 17 .ireturn 1 18 := ⟨by decide +kernel, rfl⟩
theorem d_X4_accept_18 : gd cX4_accept 18 (.aload_n 0) 1 19 := ⟨by decide +kernel, rfl⟩
theorem d_X4_accept_19 : gd cX4_accept 19 .dup 1 20 := ⟨by decide +kernel, rfl⟩
theorem d_X4_accept_20 : gd cX4_accept 20 (.getfield 15) 3 23 := ⟨by decide +kernel, rfl⟩
theorem d_X4_accept_23 : gd cX4_accept 23 (.iconst 1) 1 24 := ⟨by decide +kernel, rfl⟩
theorem d_X4_accept_24 : gd cX4_accept 24 .iadd 1 25 := ⟨by decide +kernel, rfl⟩
theorem d_X4_accept_25 : gd cX4_accept 25 (.putfield 15) 3 28 := ⟨by decide +kernel, rfl⟩
theorem d_X4_accept_28 : gd cX4_accept 28 (.iconst 1) 1 29 := ⟨by decide +kernel, rfl⟩
theorem d_X4_accept_29 : gd cX4_accept 29 .ireturn 1 30 := ⟨by decide +kernel, rfl⟩
def D_X4_accept (a0 : Nat) (x1 : Int32) (μ : gs_M) : Option (Int32 × gs_M) :=
  if (gI μ a0 2) = (-1 : Int32) then (bd (D_X4_next a0 μ) (fun v4 u3 => if v4 = x1 then (lt1 (sI u3 a0 1 ((gI u3 a0 1) + (1 : Int32))) (fun u6 => some ((1 : Int32), u6))) else (some ((0 : Int32), u3)))) else (some ((0 : Int32), μ))
section S_X4_accept_2
variable {p : Program} {l : Launch} {e : Env} {R : Room} {s : State} {m : MethodId} {args : Array Value} {below : List Frame} {meth : Method} {c : Code} {ad : Nat → Nat} {g : va_G} {tyc : Nat → ClassId}
set_option maxRecDepth 20000 in
theorem C_X4_accept_2  {a0 : Nat} {x1 : Int32} {μ : gs_M} {r : Int32} {μ2 : gs_M} (hk0 : kd a0 = 2) (hD : D_X4_accept a0 x1 μ = some (r, μ2)) : CALL yX4_accept cX4_accept 2 (some .boolean) 2 [.ref a0, .int x1] μ (some (.int r)) μ2 := by
  unfold D_X4_accept at hD
  refine gs_enter mf_X4_accept (Nat.le_of_ble_eq_true rfl) (ls := [.ref a0, .int x1]) rfl (fun p l e R s m args below meth c ad g tyc hK => ?_)
  have hK : KC p R s m args meth c ad g tyc RX4 cX4_accept 2 (some .boolean) 2 := hK
  refine r_aload_n hK d_X4_accept_0 rfl rfl ?_
  refine r_getI hK d_X4_accept_1 fl_RX4_19_2 rfl hk0 ?_
  refine r_iconst hK d_X4_accept_4 ci_m1 ?_
  refine r_icmp_ne (tgt := 16) hK d_X4_accept_5 (by decide) (fun h1 => ?_) (fun h1 => ?_)
  · have hD := if_f hD h1
    refine r_iconst hK d_X4_accept_16 ci_0 ?_
    cases hD
    exact r_zret hK (Or.inl rfl) d_X4_accept_17
  · have hD := if_t hD h1
    refine r_aload_n hK d_X4_accept_8 rfl rfl ?_
    obtain ⟨v4, u3, e2, hD⟩ := bd_e hD
    refine r_callV (As := []) (st := []) (stk2 := [.int v4]) hK (C_X4_next_2 hk0 e2) d_X4_accept_9 mf_X4_next ml_RX4_28 im_X4_next rfl se_2_RX4_X4_next hk0 rfl (Nat.le_of_ble_eq_true rfl) (by decide) ⟨Nat.zero_le _, Nat.zero_le _⟩ rfl rfl ?_
    refine r_iload_n hK d_X4_accept_12 rfl rfl ?_
    refine r_icmp_eq (tgt := 18) hK d_X4_accept_13 (by decide) (fun h5 => ?_) (fun h5 => ?_)
    · have hD := if_t hD h5
      refine r_aload_n hK d_X4_accept_18 rfl rfl ?_
      refine r_dup hK d_X4_accept_19 rfl ?_
      refine r_getI hK d_X4_accept_20 fl_RX4_15_2 rfl hk0 ?_
      refine r_iconst hK d_X4_accept_23 ci_1 ?_
      refine r_iadd hK d_X4_accept_24 ?_
      refine r_putI hK d_X4_accept_25 fl_RX4_15_2 rfl rfl hk0 ?_
      refine r_ltm hD (fun u6 hD => ?_)
      refine r_iconst hK d_X4_accept_28 ci_1 ?_
      cases hD
      exact r_zret hK (Or.inr rfl) d_X4_accept_29
    · have hD := if_f hD h5
      refine r_iconst hK d_X4_accept_16 ci_0 ?_
      cases hD
      exact r_zret hK (Or.inl rfl) d_X4_accept_17
end S_X4_accept_2
section S_X4_accept_4
variable {p : Program} {l : Launch} {e : Env} {R : Room} {s : State} {m : MethodId} {args : Array Value} {below : List Frame} {meth : Method} {c : Code} {ad : Nat → Nat} {g : va_G} {tyc : Nat → ClassId}
set_option maxRecDepth 20000 in
theorem C_X4_accept_4  {a0 : Nat} {x1 : Int32} {μ : gs_M} {r : Int32} {μ2 : gs_M} (hk0 : kd a0 = 4) (hD : D_X4_accept a0 x1 μ = some (r, μ2)) : CALL yX4_accept cX4_accept 2 (some .boolean) 2 [.ref a0, .int x1] μ (some (.int r)) μ2 := by
  unfold D_X4_accept at hD
  refine gs_enter mf_X4_accept (Nat.le_of_ble_eq_true rfl) (ls := [.ref a0, .int x1]) rfl (fun p l e R s m args below meth c ad g tyc hK => ?_)
  have hK : KC p R s m args meth c ad g tyc RX4 cX4_accept 2 (some .boolean) 2 := hK
  refine r_aload_n hK d_X4_accept_0 rfl rfl ?_
  refine r_getI hK d_X4_accept_1 fl_RX4_19_4 rfl hk0 ?_
  refine r_iconst hK d_X4_accept_4 ci_m1 ?_
  refine r_icmp_ne (tgt := 16) hK d_X4_accept_5 (by decide) (fun h1 => ?_) (fun h1 => ?_)
  · have hD := if_f hD h1
    refine r_iconst hK d_X4_accept_16 ci_0 ?_
    cases hD
    exact r_zret hK (Or.inl rfl) d_X4_accept_17
  · have hD := if_t hD h1
    refine r_aload_n hK d_X4_accept_8 rfl rfl ?_
    obtain ⟨v4, u3, e2, hD⟩ := bd_e hD
    refine r_callV (As := []) (st := []) (stk2 := [.int v4]) hK (C_X4_next_4 hk0 e2) d_X4_accept_9 mf_X4_next ml_RX4_28 im_X4_next rfl se_4_RX4_X4_next hk0 rfl (Nat.le_of_ble_eq_true rfl) (by decide) ⟨Nat.zero_le _, Nat.zero_le _⟩ rfl rfl ?_
    refine r_iload_n hK d_X4_accept_12 rfl rfl ?_
    refine r_icmp_eq (tgt := 18) hK d_X4_accept_13 (by decide) (fun h5 => ?_) (fun h5 => ?_)
    · have hD := if_t hD h5
      refine r_aload_n hK d_X4_accept_18 rfl rfl ?_
      refine r_dup hK d_X4_accept_19 rfl ?_
      refine r_getI hK d_X4_accept_20 fl_RX4_15_4 rfl hk0 ?_
      refine r_iconst hK d_X4_accept_23 ci_1 ?_
      refine r_iadd hK d_X4_accept_24 ?_
      refine r_putI hK d_X4_accept_25 fl_RX4_15_4 rfl rfl hk0 ?_
      refine r_ltm hD (fun u6 hD => ?_)
      refine r_iconst hK d_X4_accept_28 ci_1 ?_
      cases hD
      exact r_zret hK (Or.inr rfl) d_X4_accept_29
    · have hD := if_f hD h5
      refine r_iconst hK d_X4_accept_16 ci_0 ?_
      cases hD
      exact r_zret hK (Or.inl rfl) d_X4_accept_17
end S_X4_accept_4
theorem d_X4_expect_0 : gd cX4_expect 0 (.aload_n 0) 1 1 := ⟨by decide +kernel, rfl⟩
theorem d_X4_expect_1 : gd cX4_expect 1 (.iload_n 1) 1 2 := ⟨by decide +kernel, rfl⟩
theorem d_X4_expect_2 : gd cX4_expect 2 (.invokevirtual 32) 3 5 := ⟨by decide +kernel, rfl⟩
theorem d_X4_expect_5 : gd cX4_expect 5 (.ifCond .ne 11) 3 8 := ⟨by decide +kernel, rfl⟩
theorem d_X4_expect_8 : gd cX4_expect 8 (.aload_n 0) 1 9 := ⟨by decide +kernel, rfl⟩
theorem d_X4_expect_9 : gd cX4_expect 9 (.aload_n 0) 1 10 := ⟨by decide +kernel, rfl⟩
theorem d_X4_expect_10 : gd cX4_expect 10 (.getfield 15) 3 13 := ⟨by decide +kernel, rfl⟩
theorem d_X4_expect_13 : gd cX4_expect 13 (.invokevirtual 36) 3 16 := ⟨by decide +kernel, rfl⟩
theorem d_X4_expect_16 : gd cX4_expect 16 .return_ 1 17 := ⟨by decide +kernel, rfl⟩
def D_X4_expect (a0 : Nat) (x1 : Int32) (μ : gs_M) : Option (gs_M) :=
  bd (D_X4_accept a0 x1 μ) (fun v3 u2 => if v3 = 0 then (bd0 (D_X4_failAt a0 (gI u2 a0 1) u2) (fun u6 => some u6)) else (some u2))
section S_X4_expect_2
variable {p : Program} {l : Launch} {e : Env} {R : Room} {s : State} {m : MethodId} {args : Array Value} {below : List Frame} {meth : Method} {c : Code} {ad : Nat → Nat} {g : va_G} {tyc : Nat → ClassId}
set_option maxRecDepth 20000 in
theorem C_X4_expect_2  {a0 : Nat} {x1 : Int32} {μ : gs_M} {μ2 : gs_M} (hk0 : kd a0 = 2) (hD : D_X4_expect a0 x1 μ = some μ2) : CALL yX4_expect cX4_expect 2 none 3 [.ref a0, .int x1] μ none μ2 := by
  unfold D_X4_expect at hD
  refine gs_enter mf_X4_expect (Nat.le_of_ble_eq_true rfl) (ls := [.ref a0, .int x1]) rfl (fun p l e R s m args below meth c ad g tyc hK => ?_)
  have hK : KC p R s m args meth c ad g tyc RX4 cX4_expect 2 none 3 := hK
  refine r_aload_n hK d_X4_expect_0 rfl rfl ?_
  refine r_iload_n hK d_X4_expect_1 rfl rfl ?_
  obtain ⟨v3, u2, e1, hD⟩ := bd_e hD
  refine r_callV (As := [.int x1]) (st := []) (stk2 := [.int v3]) hK (C_X4_accept_2 hk0 e1) d_X4_expect_2 mf_X4_accept ml_RX4_32 im_X4_accept rfl se_2_RX4_X4_accept hk0 rfl (Nat.le_of_ble_eq_true rfl) (by decide) ⟨Nat.zero_le _, Nat.zero_le _⟩ rfl rfl ?_
  refine r_if_ne (tgt := 16) hK d_X4_expect_5 (by decide) (fun h4 => ?_) (fun h4 => ?_)
  · have hD := if_f hD h4
    cases hD
    exact r_vret hK d_X4_expect_16
  · have hD := if_t hD h4
    refine r_aload_n hK d_X4_expect_8 rfl rfl ?_
    refine r_aload_n hK d_X4_expect_9 rfl rfl ?_
    refine r_getI hK d_X4_expect_10 fl_RX4_15_2 rfl hk0 ?_
    obtain ⟨u6, e5, hD⟩ := bd0_e hD
    refine r_callV (As := [.int (gI u2 a0 1)]) (st := []) (stk2 := []) hK (C_X4_failAt_2 hk0 e5) d_X4_expect_13 mf_X4_failAt ml_RX4_36 im_X4_failAt rfl se_2_RX4_X4_failAt hk0 rfl (Nat.le_of_ble_eq_true rfl) (by decide) ⟨Nat.zero_le _, Nat.zero_le _⟩ rfl rfl ?_
    cases hD
    exact r_vret hK d_X4_expect_16
end S_X4_expect_2
section S_X4_expect_4
variable {p : Program} {l : Launch} {e : Env} {R : Room} {s : State} {m : MethodId} {args : Array Value} {below : List Frame} {meth : Method} {c : Code} {ad : Nat → Nat} {g : va_G} {tyc : Nat → ClassId}
set_option maxRecDepth 20000 in
theorem C_X4_expect_4  {a0 : Nat} {x1 : Int32} {μ : gs_M} {μ2 : gs_M} (hk0 : kd a0 = 4) (hD : D_X4_expect a0 x1 μ = some μ2) : CALL yX4_expect cX4_expect 2 none 3 [.ref a0, .int x1] μ none μ2 := by
  unfold D_X4_expect at hD
  refine gs_enter mf_X4_expect (Nat.le_of_ble_eq_true rfl) (ls := [.ref a0, .int x1]) rfl (fun p l e R s m args below meth c ad g tyc hK => ?_)
  have hK : KC p R s m args meth c ad g tyc RX4 cX4_expect 2 none 3 := hK
  refine r_aload_n hK d_X4_expect_0 rfl rfl ?_
  refine r_iload_n hK d_X4_expect_1 rfl rfl ?_
  obtain ⟨v3, u2, e1, hD⟩ := bd_e hD
  refine r_callV (As := [.int x1]) (st := []) (stk2 := [.int v3]) hK (C_X4_accept_4 hk0 e1) d_X4_expect_2 mf_X4_accept ml_RX4_32 im_X4_accept rfl se_4_RX4_X4_accept hk0 rfl (Nat.le_of_ble_eq_true rfl) (by decide) ⟨Nat.zero_le _, Nat.zero_le _⟩ rfl rfl ?_
  refine r_if_ne (tgt := 16) hK d_X4_expect_5 (by decide) (fun h4 => ?_) (fun h4 => ?_)
  · have hD := if_f hD h4
    cases hD
    exact r_vret hK d_X4_expect_16
  · have hD := if_t hD h4
    refine r_aload_n hK d_X4_expect_8 rfl rfl ?_
    refine r_aload_n hK d_X4_expect_9 rfl rfl ?_
    refine r_getI hK d_X4_expect_10 fl_RX4_15_4 rfl hk0 ?_
    obtain ⟨u6, e5, hD⟩ := bd0_e hD
    refine r_callV (As := [.int (gI u2 a0 1)]) (st := []) (stk2 := []) hK (C_X4_failAt_4 hk0 e5) d_X4_expect_13 mf_X4_failAt ml_RX4_36 im_X4_failAt rfl se_4_RX4_X4_failAt hk0 rfl (Nat.le_of_ble_eq_true rfl) (by decide) ⟨Nat.zero_le _, Nat.zero_le _⟩ rfl rfl ?_
    cases hD
    exact r_vret hK d_X4_expect_16
end S_X4_expect_4
theorem d_X4_digits_0 : gd cX4_digits 0 (.iconst 0) 1 1 := ⟨by decide +kernel, rfl⟩
theorem d_X4_digits_1 : gd cX4_digits 1 (.istore_n 2) 1 2 := ⟨by decide +kernel, rfl⟩
theorem d_X4_digits_2 : gd cX4_digits 2 (.iconst 0) 1 3 := ⟨by decide +kernel, rfl⟩
theorem d_X4_digits_3 : gd cX4_digits 3 (.istore_n 3) 1 4 := ⟨by decide +kernel, rfl⟩
theorem d_X4_digits_4 : gd cX4_digits 4 (.aload_n 0) 1 5 := ⟨by decide +kernel, rfl⟩
theorem d_X4_digits_5 : gd cX4_digits 5 (.invokevirtual 28) 3 8 := ⟨by decide +kernel, rfl⟩
theorem d_X4_digits_8 : gd cX4_digits 8 .pop 1 9 := ⟨by decide +kernel, rfl⟩
theorem d_X4_digits_9 : gd cX4_digits 9 (.iload_n 3) 1 10 := ⟨by decide +kernel, rfl⟩
theorem d_X4_digits_10 : gd cX4_digits 10 (.iload_n 1) 1 11 := ⟨by decide +kernel, rfl⟩
theorem d_X4_digits_11 : gd cX4_digits 11 (.if_icmp .gt 75) 3 14 := ⟨by decide +kernel, rfl⟩
theorem d_X4_digits_14 : gd cX4_digits 14 (.aload_n 0) 1 15 := ⟨by decide +kernel, rfl⟩
theorem d_X4_digits_15 : gd cX4_digits 15 (.getfield 9) 3 18 := ⟨by decide +kernel, rfl⟩
theorem d_X4_digits_18 : gd cX4_digits 18 (.aload_n 0) 1 19 := ⟨by decide +kernel, rfl⟩
theorem d_X4_digits_19 : gd cX4_digits 19 (.getfield 15) 3 22 := ⟨by decide +kernel, rfl⟩
theorem d_X4_digits_22 : gd cX4_digits 22 (.invokevirtual 22) 3 25 := ⟨by decide +kernel, rfl⟩
theorem d_X4_digits_25 : gd cX4_digits 25 (.bipush 48) 2 27 := ⟨by decide +kernel, rfl⟩
theorem d_X4_digits_27 : gd cX4_digits 27 (.bipush 57) 2 29 := ⟨by decide +kernel, rfl⟩
theorem d_X4_digits_29 : gd cX4_digits 29 (.invokestatic 40) 3 32 := ⟨by decide +kernel, rfl⟩
theorem d_X4_digits_32 : gd cX4_digits 32 (.ifCond .eq 54) 3 35 := ⟨by decide +kernel, rfl⟩
theorem d_X4_digits_35 : gd cX4_digits 35 (.iload_n 3) 1 36 := ⟨by decide +kernel, rfl⟩
theorem d_X4_digits_36 : gd cX4_digits 36 (.iload_n 1) 1 37 := ⟨by decide +kernel, rfl⟩
theorem d_X4_digits_37 : gd cX4_digits 37 (.if_icmp .ne 13) 3 40 := ⟨by decide +kernel, rfl⟩
theorem d_X4_digits_40 : gd cX4_digits 40 (.aload_n 0) 1 41 := ⟨by decide +kernel, rfl⟩
theorem d_X4_digits_41 : gd cX4_digits 41 (.aload_n 0) 1 42 := ⟨by decide +kernel, rfl⟩
theorem d_X4_digits_42 : gd cX4_digits 42 (.getfield 15) 3 45 := ⟨by decide +kernel, rfl⟩
theorem d_X4_digits_45 : gd cX4_digits 45 (.invokevirtual 36) 3 48 := ⟨by decide +kernel, rfl⟩
theorem d_X4_digits_48 : gd cX4_digits 48 (.iload_n 2) 1 49 := ⟨by decide +kernel, rfl⟩
theorem d_X4_digits_49 : gd cX4_digits 49 .ireturn 1 50 := ⟨by decide +kernel, rfl⟩
theorem d_X4_digits_50 : gd cX4_digits 50 (.iload_n 2) 1 51 := ⟨by decide +kernel, rfl⟩
theorem d_X4_digits_51 : gd cX4_digits 51 (.bipush 10) 2 53 := ⟨by decide +kernel, rfl⟩
theorem d_X4_digits_53 : gd cX4_digits 53 .imul 1 54 := ⟨by decide +kernel, rfl⟩
theorem d_X4_digits_54 : gd cX4_digits 54 (.aload_n 0) 1 55 := ⟨by decide +kernel, rfl⟩
theorem d_X4_digits_55 : gd cX4_digits 55 (.getfield 9) 3 58 := ⟨by decide +kernel, rfl⟩
theorem d_X4_digits_58 : gd cX4_digits 58 (.aload_n 0) 1 59 := ⟨by decide +kernel, rfl⟩
theorem d_X4_digits_59 : gd cX4_digits 59 (.getfield 15) 3 62 := ⟨by decide +kernel, rfl⟩
theorem d_X4_digits_62 : gd cX4_digits 62 (.invokevirtual 22) 3 65 := ⟨by decide +kernel, rfl⟩
theorem d_X4_digits_65 : gd cX4_digits 65 .iadd 1 66 := ⟨by decide +kernel, rfl⟩
theorem d_X4_digits_66 : gd cX4_digits 66 (.bipush 48) 2 68 := ⟨by decide +kernel, rfl⟩
theorem d_X4_digits_68 : gd cX4_digits 68 .isub 1 69 := ⟨by decide +kernel, rfl⟩
theorem d_X4_digits_69 : gd cX4_digits 69 (.istore_n 2) 1 70 := ⟨by decide +kernel, rfl⟩
theorem d_X4_digits_70 : gd cX4_digits 70 (.iinc 3 1) 3 73 := ⟨by decide +kernel, rfl⟩
theorem d_X4_digits_73 : gd cX4_digits 73 (.aload_n 0) 1 74 := ⟨by decide +kernel, rfl⟩
theorem d_X4_digits_74 : gd cX4_digits 74 .dup 1 75 := ⟨by decide +kernel, rfl⟩
theorem d_X4_digits_75 : gd cX4_digits 75 (.getfield 15) 3 78 := ⟨by decide +kernel, rfl⟩
theorem d_X4_digits_78 : gd cX4_digits 78 (.iconst 1) 1 79 := ⟨by decide +kernel, rfl⟩
theorem d_X4_digits_79 : gd cX4_digits 79 .iadd 1 80 := ⟨by decide +kernel, rfl⟩
theorem d_X4_digits_80 : gd cX4_digits 80 (.putfield 15) 3 83 := ⟨by decide +kernel, rfl⟩
theorem d_X4_digits_83 : gd cX4_digits 83 (.goto (-74)) 3 86 := ⟨by decide +kernel, rfl⟩
theorem d_X4_digits_86 : gd cX4_digits 86 (.iload_n 3) 1 87 := ⟨by decide +kernel, rfl⟩
theorem d_X4_digits_87 : gd cX4_digits 87 (.ifCond .ne 11) 3 90 := ⟨by decide +kernel, rfl⟩
theorem d_X4_digits_90 : gd cX4_digits 90 (.aload_n 0) 1 91 := ⟨by decide +kernel, rfl⟩
theorem d_X4_digits_91 : gd cX4_digits 91 (.aload_n 0) 1 92 := ⟨by decide +kernel, rfl⟩
theorem d_X4_digits_92 : gd cX4_digits 92 (.getfield 15) 3 95 := ⟨by decide +kernel, rfl⟩
theorem d_X4_digits_95 : gd cX4_digits 95 (.invokevirtual 36) 3 98 := ⟨by decide +kernel, rfl⟩
theorem d_X4_digits_98 : gd cX4_digits 98 (.iload_n 2) 1 99 := ⟨by decide +kernel, rfl⟩
theorem d_X4_digits_99 : gd cX4_digits 99 .ireturn 1 100 := ⟨by decide +kernel, rfl⟩
def B_X4_digits_86  (a0 : Nat) (x2 : Int32) (x3 : Int32) (μ : gs_M) : Option (Int32 × gs_M) :=
  if x3 = 0 then (bd0 (D_X4_failAt a0 (gI μ a0 1) μ) (fun u3 => some (x2, u3))) else (some (x2, μ))
def Bo_X4_digits_9 (q9 : Nat → Int32 → Int32 → Int32 → gs_M → Option (Int32 × gs_M)) (a0 : Nat) (x1 : Int32) (x2 : Int32) (x3 : Int32) (μ : gs_M) : Option (Int32 × gs_M) :=
  if x1 < x3 then (B_X4_digits_86 a0 x2 x3 μ) else (bd (D_X8_signAt (gI μ a0 1) μ) (fun v4 u3 => bd (D_X11_within v4 (48 : Int32) (57 : Int32) u3) (fun v7 u6 => if v7 = 0 then (B_X4_digits_86 a0 x2 x3 u6) else (if x3 = x1 then (bd0 (D_X4_failAt a0 (gI u6 a0 1) u6) (fun u16 => some (x2, u16))) else (bd (D_X8_signAt (gI u6 a0 1) u6) (fun v12 u11 => lt1 (((x2 * (10 : Int32)) + v12) - (48 : Int32)) (fun v13 => lt1 (sI u11 a0 1 ((gI u11 a0 1) + (1 : Int32))) (fun u14 => q9 a0 x1 v13 (x3 + (1 : Int32)) u14))))))))
def L_X4_digits_9  : Nat → Nat → Int32 → Int32 → Int32 → gs_M → Option (Int32 × gs_M)
  | 0 => fun _ _ _ _ _ => none
  | n + 1 => fun a0 x1 x2 x3 μ => Bo_X4_digits_9  (L_X4_digits_9  n) a0 x1 x2 x3 μ
def D_X4_digits (a0 : Nat) (x1 : Int32) (μ : gs_M) : Option (Int32 × gs_M) :=
  bd (D_X4_next a0 μ) (fun v3 u2 => L_X4_digits_9 4096 a0 x1 (0 : Int32) (0 : Int32) u2)
section S_X4_digits_2
variable {p : Program} {l : Launch} {e : Env} {R : Room} {s : State} {m : MethodId} {args : Array Value} {below : List Frame} {meth : Method} {c : Code} {ad : Nat → Nat} {g : va_G} {tyc : Nat → ClassId}
set_option maxRecDepth 20000 in
theorem T_X4_digits_86_2  (hK : KC p R s m args meth c ad g tyc RX4 cX4_digits 4 (some .int) 2) {r : Int32} {μ2 : gs_M}   {a0 : Nat} {x2 : Int32} {x3 : Int32} {μ : gs_M} (hk0 : kd a0 = 2) (hD : B_X4_digits_86  a0 x2 x3 μ = some (r, μ2)) : WJ p l e R s m args below meth c 0 0 (MQ below (gs_Q ad g tyc (some (.int r)) μ2) args s 0 0 (gs_A ad)) ad g tyc 4 86 [.ref a0, gs_J, .int x2, .int x3] [] μ := by
  unfold B_X4_digits_86 at hD
  refine r_iload_n hK d_X4_digits_86 rfl rfl ?_
  refine r_if_ne (tgt := 98) hK d_X4_digits_87 (by decide) (fun h1 => ?_) (fun h1 => ?_)
  · have hD := if_f hD h1
    refine r_iload_n hK d_X4_digits_98 rfl rfl ?_
    cases hD
    exact r_iret hK d_X4_digits_99
  · have hD := if_t hD h1
    refine r_aload_n hK d_X4_digits_90 rfl rfl ?_
    refine r_aload_n hK d_X4_digits_91 rfl rfl ?_
    refine r_getI hK d_X4_digits_92 fl_RX4_15_2 rfl hk0 ?_
    obtain ⟨u3, e2, hD⟩ := bd0_e hD
    refine r_callV (As := [.int (gI μ a0 1)]) (st := []) (stk2 := []) hK (C_X4_failAt_2 hk0 e2) d_X4_digits_95 mf_X4_failAt ml_RX4_36 im_X4_failAt rfl se_2_RX4_X4_failAt hk0 rfl (Nat.le_of_ble_eq_true rfl) (by decide) ⟨Nat.zero_le _, Nat.zero_le _⟩ rfl rfl ?_
    refine r_iload_n hK d_X4_digits_98 rfl rfl ?_
    cases hD
    exact r_iret hK d_X4_digits_99
set_option maxRecDepth 20000 in
theorem To_X4_digits_9_2  (hK : KC p R s m args meth c ad g tyc RX4 cX4_digits 4 (some .int) 2) {r : Int32} {μ2 : gs_M} {q9 : Nat → Int32 → Int32 → Int32 → gs_M → Option (Int32 × gs_M)} (hq9 : ∀ (a0 : Nat) (x1 : Int32) (x2 : Int32) (x3 : Int32) (μ : gs_M), kd a0 = 2 → q9 a0 x1 x2 x3 μ = some (r, μ2) → WJ p l e R s m args below meth c 0 0 (MQ below (gs_Q ad g tyc (some (.int r)) μ2) args s 0 0 (gs_A ad)) ad g tyc 4 9 [.ref a0, .int x1, .int x2, .int x3] [] μ) {a0 : Nat} {x1 : Int32} {x2 : Int32} {x3 : Int32} {μ : gs_M} (hk0 : kd a0 = 2) (hD : Bo_X4_digits_9 q9 a0 x1 x2 x3 μ = some (r, μ2)) : WJ p l e R s m args below meth c 0 0 (MQ below (gs_Q ad g tyc (some (.int r)) μ2) args s 0 0 (gs_A ad)) ad g tyc 4 9 [.ref a0, .int x1, .int x2, .int x3] [] μ := by
  unfold Bo_X4_digits_9 at hD
  refine r_iload_n hK d_X4_digits_9 rfl rfl ?_
  refine r_iload_n hK d_X4_digits_10 rfl rfl ?_
  refine r_icmp_gt (tgt := 86) hK d_X4_digits_11 (by decide) (fun h1 => ?_) (fun h1 => ?_)
  · have hD := if_t hD h1
    refine r_junk [true, false, true, true] (ls2 := [.ref a0, gs_J, .int x2, .int x3]) rfl ?_
    exact T_X4_digits_86_2 hK  hk0 hD
  · have hD := if_f hD h1
    refine r_aload_n hK d_X4_digits_14 rfl rfl ?_
    refine r_getR hK d_X4_digits_15 fl_RX4_9_2 rfl hk0 ?_
    refine r_ref (b := 1) (ly_rd2 _ hk0) ?_
    refine r_aload_n hK d_X4_digits_18 rfl rfl ?_
    refine r_getI hK d_X4_digits_19 fl_RX4_15_2 rfl hk0 ?_
    obtain ⟨v4, u3, e2, hD⟩ := bd_e hD
    refine r_callV (As := [.int (gI μ a0 1)]) (st := []) (stk2 := [.int v4]) hK (C_X8_signAt  e2) d_X4_digits_22 mf_X8_signAt ml_RX4_22 im_X8_signAt rfl se_7_RX8_X8_signAt kd_1 rfl (Nat.le_of_ble_eq_true rfl) (by decide) ⟨Nat.zero_le _, Nat.zero_le _⟩ rfl rfl ?_
    refine r_bipush hK d_X4_digits_25 cb_48 ?_
    refine r_bipush hK d_X4_digits_27 cb_57 ?_
    obtain ⟨v7, u6, e5, hD⟩ := bd_e hD
    refine r_callSN (As := [.int v4, .int (48 : Int32), .int (57 : Int32)]) (st := []) (stk2 := [.int v7]) hK (C_X11_within  e5) d_X4_digits_29 mf_X11_within mn_RX4_40 ss_X11_within rfl (Nat.le_of_ble_eq_true rfl) (by decide) ⟨Nat.zero_le _, Nat.zero_le _⟩ rfl rfl ?_
    refine r_if_eq (tgt := 86) hK d_X4_digits_32 (by decide) (fun h8 => ?_) (fun h8 => ?_)
    · have hD := if_t hD h8
      refine r_junk [true, false, true, true] (ls2 := [.ref a0, gs_J, .int x2, .int x3]) rfl ?_
      exact T_X4_digits_86_2 hK  hk0 hD
    · have hD := if_f hD h8
      refine r_iload_n hK d_X4_digits_35 rfl rfl ?_
      refine r_iload_n hK d_X4_digits_36 rfl rfl ?_
      refine r_icmp_ne (tgt := 50) hK d_X4_digits_37 (by decide) (fun h9 => ?_) (fun h9 => ?_)
      · have hD := if_f hD h9
        refine r_iload_n hK d_X4_digits_50 rfl rfl ?_
        refine r_bipush hK d_X4_digits_51 cb_10 ?_
        refine r_imul hK d_X4_digits_53 ?_
        refine r_aload_n hK d_X4_digits_54 rfl rfl ?_
        refine r_getR hK d_X4_digits_55 fl_RX4_9_2 rfl hk0 ?_
        refine r_ref (b := 1) (ly_rd2 _ hk0) ?_
        refine r_aload_n hK d_X4_digits_58 rfl rfl ?_
        refine r_getI hK d_X4_digits_59 fl_RX4_15_2 rfl hk0 ?_
        obtain ⟨v12, u11, e10, hD⟩ := bd_e hD
        refine r_callV (As := [.int (gI u6 a0 1)]) (st := [.int (x2 * (10 : Int32))]) (stk2 := [.int v12, .int (x2 * (10 : Int32))]) hK (C_X8_signAt  e10) d_X4_digits_62 mf_X8_signAt ml_RX4_22 im_X8_signAt rfl se_7_RX8_X8_signAt kd_1 rfl (Nat.le_of_ble_eq_true rfl) (by decide) ⟨Nat.zero_le _, Nat.zero_le _⟩ rfl rfl ?_
        refine r_iadd hK d_X4_digits_65 ?_
        refine r_bipush hK d_X4_digits_66 cb_48 ?_
        refine r_isub hK d_X4_digits_68 ?_
        refine r_lti hD (fun v13 hD => ?_)
        refine r_istore_n hK d_X4_digits_69 rfl (by decide) (ls2 := [.ref a0, .int x1, .int v13, .int x3]) rfl ?_
        refine r_iinc hK d_X4_digits_70 rfl (v := x3 + (1 : Int32)) (by rw [ci_1]) (by decide) (ls2 := [.ref a0, .int x1, .int v13, .int (x3 + (1 : Int32))]) rfl ?_
        refine r_aload_n hK d_X4_digits_73 rfl rfl ?_
        refine r_dup hK d_X4_digits_74 rfl ?_
        refine r_getI hK d_X4_digits_75 fl_RX4_15_2 rfl hk0 ?_
        refine r_iconst hK d_X4_digits_78 ci_1 ?_
        refine r_iadd hK d_X4_digits_79 ?_
        refine r_putI hK d_X4_digits_80 fl_RX4_15_2 rfl rfl hk0 ?_
        refine r_ltm hD (fun u14 hD => ?_)
        refine r_goto (tgt := 9) hK d_X4_digits_83 (by decide) ?_
        exact hq9 _ _ _ _ _ hk0 hD
      · have hD := if_t hD h9
        refine r_aload_n hK d_X4_digits_40 rfl rfl ?_
        refine r_aload_n hK d_X4_digits_41 rfl rfl ?_
        refine r_getI hK d_X4_digits_42 fl_RX4_15_2 rfl hk0 ?_
        obtain ⟨u16, e15, hD⟩ := bd0_e hD
        refine r_callV (As := [.int (gI u6 a0 1)]) (st := []) (stk2 := []) hK (C_X4_failAt_2 hk0 e15) d_X4_digits_45 mf_X4_failAt ml_RX4_36 im_X4_failAt rfl se_2_RX4_X4_failAt hk0 rfl (Nat.le_of_ble_eq_true rfl) (by decide) ⟨Nat.zero_le _, Nat.zero_le _⟩ rfl rfl ?_
        refine r_iload_n hK d_X4_digits_48 rfl rfl ?_
        cases hD
        exact r_iret hK d_X4_digits_49
set_option maxRecDepth 20000 in
theorem TL_X4_digits_9_2  (hK : KC p R s m args meth c ad g tyc RX4 cX4_digits 4 (some .int) 2) {r : Int32} {μ2 : gs_M}   : ∀ (n : Nat) (a0 : Nat) (x1 : Int32) (x2 : Int32) (x3 : Int32) (μ : gs_M), kd a0 = 2 → L_X4_digits_9  n a0 x1 x2 x3 μ = some (r, μ2) → WJ p l e R s m args below meth c 0 0 (MQ below (gs_Q ad g tyc (some (.int r)) μ2) args s 0 0 (gs_A ad)) ad g tyc 4 9 [.ref a0, .int x1, .int x2, .int x3] [] μ := by
  intro n
  induction n with
  | zero => intro a0 x1 x2 x3 μ hk0 hD; cases hD
  | succ n ih => intro a0 x1 x2 x3 μ hk0 hD; exact To_X4_digits_9_2 hK  ih hk0 hD
set_option maxRecDepth 20000 in
theorem C_X4_digits_2  {a0 : Nat} {x1 : Int32} {μ : gs_M} {r : Int32} {μ2 : gs_M} (hk0 : kd a0 = 2) (hD : D_X4_digits a0 x1 μ = some (r, μ2)) : CALL yX4_digits cX4_digits 4 (some .int) 2 [.ref a0, .int x1] μ (some (.int r)) μ2 := by
  unfold D_X4_digits at hD
  refine gs_enter mf_X4_digits (Nat.le_of_ble_eq_true rfl) (ls := [.ref a0, .int x1, gs_J, gs_J]) rfl (fun p l e R s m args below meth c ad g tyc hK => ?_)
  have hK : KC p R s m args meth c ad g tyc RX4 cX4_digits 4 (some .int) 2 := hK
  refine r_iconst hK d_X4_digits_0 ci_0 ?_
  refine r_istore_n hK d_X4_digits_1 rfl (by decide) (ls2 := [.ref a0, .int x1, .int (0 : Int32), gs_J]) rfl ?_
  refine r_iconst hK d_X4_digits_2 ci_0 ?_
  refine r_istore_n hK d_X4_digits_3 rfl (by decide) (ls2 := [.ref a0, .int x1, .int (0 : Int32), .int (0 : Int32)]) rfl ?_
  refine r_aload_n hK d_X4_digits_4 rfl rfl ?_
  obtain ⟨v3, u2, e1, hD⟩ := bd_e hD
  refine r_callV (As := []) (st := []) (stk2 := [.int v3]) hK (C_X4_next_2 hk0 e1) d_X4_digits_5 mf_X4_next ml_RX4_28 im_X4_next rfl se_2_RX4_X4_next hk0 rfl (Nat.le_of_ble_eq_true rfl) (by decide) ⟨Nat.zero_le _, Nat.zero_le _⟩ rfl rfl ?_
  refine r_pop hK d_X4_digits_8 rfl ?_
  exact TL_X4_digits_9_2 hK  _ _ _ _ _ _ hk0 hD
end S_X4_digits_2
section S_X4_digits_4
variable {p : Program} {l : Launch} {e : Env} {R : Room} {s : State} {m : MethodId} {args : Array Value} {below : List Frame} {meth : Method} {c : Code} {ad : Nat → Nat} {g : va_G} {tyc : Nat → ClassId}
set_option maxRecDepth 20000 in
theorem T_X4_digits_86_4  (hK : KC p R s m args meth c ad g tyc RX4 cX4_digits 4 (some .int) 2) {r : Int32} {μ2 : gs_M}   {a0 : Nat} {x2 : Int32} {x3 : Int32} {μ : gs_M} (hk0 : kd a0 = 4) (hD : B_X4_digits_86  a0 x2 x3 μ = some (r, μ2)) : WJ p l e R s m args below meth c 0 0 (MQ below (gs_Q ad g tyc (some (.int r)) μ2) args s 0 0 (gs_A ad)) ad g tyc 4 86 [.ref a0, gs_J, .int x2, .int x3] [] μ := by
  unfold B_X4_digits_86 at hD
  refine r_iload_n hK d_X4_digits_86 rfl rfl ?_
  refine r_if_ne (tgt := 98) hK d_X4_digits_87 (by decide) (fun h1 => ?_) (fun h1 => ?_)
  · have hD := if_f hD h1
    refine r_iload_n hK d_X4_digits_98 rfl rfl ?_
    cases hD
    exact r_iret hK d_X4_digits_99
  · have hD := if_t hD h1
    refine r_aload_n hK d_X4_digits_90 rfl rfl ?_
    refine r_aload_n hK d_X4_digits_91 rfl rfl ?_
    refine r_getI hK d_X4_digits_92 fl_RX4_15_4 rfl hk0 ?_
    obtain ⟨u3, e2, hD⟩ := bd0_e hD
    refine r_callV (As := [.int (gI μ a0 1)]) (st := []) (stk2 := []) hK (C_X4_failAt_4 hk0 e2) d_X4_digits_95 mf_X4_failAt ml_RX4_36 im_X4_failAt rfl se_4_RX4_X4_failAt hk0 rfl (Nat.le_of_ble_eq_true rfl) (by decide) ⟨Nat.zero_le _, Nat.zero_le _⟩ rfl rfl ?_
    refine r_iload_n hK d_X4_digits_98 rfl rfl ?_
    cases hD
    exact r_iret hK d_X4_digits_99
set_option maxRecDepth 20000 in
theorem To_X4_digits_9_4  (hK : KC p R s m args meth c ad g tyc RX4 cX4_digits 4 (some .int) 2) {r : Int32} {μ2 : gs_M} {q9 : Nat → Int32 → Int32 → Int32 → gs_M → Option (Int32 × gs_M)} (hq9 : ∀ (a0 : Nat) (x1 : Int32) (x2 : Int32) (x3 : Int32) (μ : gs_M), kd a0 = 4 → q9 a0 x1 x2 x3 μ = some (r, μ2) → WJ p l e R s m args below meth c 0 0 (MQ below (gs_Q ad g tyc (some (.int r)) μ2) args s 0 0 (gs_A ad)) ad g tyc 4 9 [.ref a0, .int x1, .int x2, .int x3] [] μ) {a0 : Nat} {x1 : Int32} {x2 : Int32} {x3 : Int32} {μ : gs_M} (hk0 : kd a0 = 4) (hD : Bo_X4_digits_9 q9 a0 x1 x2 x3 μ = some (r, μ2)) : WJ p l e R s m args below meth c 0 0 (MQ below (gs_Q ad g tyc (some (.int r)) μ2) args s 0 0 (gs_A ad)) ad g tyc 4 9 [.ref a0, .int x1, .int x2, .int x3] [] μ := by
  unfold Bo_X4_digits_9 at hD
  refine r_iload_n hK d_X4_digits_9 rfl rfl ?_
  refine r_iload_n hK d_X4_digits_10 rfl rfl ?_
  refine r_icmp_gt (tgt := 86) hK d_X4_digits_11 (by decide) (fun h1 => ?_) (fun h1 => ?_)
  · have hD := if_t hD h1
    refine r_junk [true, false, true, true] (ls2 := [.ref a0, gs_J, .int x2, .int x3]) rfl ?_
    exact T_X4_digits_86_4 hK  hk0 hD
  · have hD := if_f hD h1
    refine r_aload_n hK d_X4_digits_14 rfl rfl ?_
    refine r_getR hK d_X4_digits_15 fl_RX4_9_4 rfl hk0 ?_
    refine r_ref (b := 1) (ly_rd4 _ hk0) ?_
    refine r_aload_n hK d_X4_digits_18 rfl rfl ?_
    refine r_getI hK d_X4_digits_19 fl_RX4_15_4 rfl hk0 ?_
    obtain ⟨v4, u3, e2, hD⟩ := bd_e hD
    refine r_callV (As := [.int (gI μ a0 1)]) (st := []) (stk2 := [.int v4]) hK (C_X8_signAt  e2) d_X4_digits_22 mf_X8_signAt ml_RX4_22 im_X8_signAt rfl se_7_RX8_X8_signAt kd_1 rfl (Nat.le_of_ble_eq_true rfl) (by decide) ⟨Nat.zero_le _, Nat.zero_le _⟩ rfl rfl ?_
    refine r_bipush hK d_X4_digits_25 cb_48 ?_
    refine r_bipush hK d_X4_digits_27 cb_57 ?_
    obtain ⟨v7, u6, e5, hD⟩ := bd_e hD
    refine r_callSN (As := [.int v4, .int (48 : Int32), .int (57 : Int32)]) (st := []) (stk2 := [.int v7]) hK (C_X11_within  e5) d_X4_digits_29 mf_X11_within mn_RX4_40 ss_X11_within rfl (Nat.le_of_ble_eq_true rfl) (by decide) ⟨Nat.zero_le _, Nat.zero_le _⟩ rfl rfl ?_
    refine r_if_eq (tgt := 86) hK d_X4_digits_32 (by decide) (fun h8 => ?_) (fun h8 => ?_)
    · have hD := if_t hD h8
      refine r_junk [true, false, true, true] (ls2 := [.ref a0, gs_J, .int x2, .int x3]) rfl ?_
      exact T_X4_digits_86_4 hK  hk0 hD
    · have hD := if_f hD h8
      refine r_iload_n hK d_X4_digits_35 rfl rfl ?_
      refine r_iload_n hK d_X4_digits_36 rfl rfl ?_
      refine r_icmp_ne (tgt := 50) hK d_X4_digits_37 (by decide) (fun h9 => ?_) (fun h9 => ?_)
      · have hD := if_f hD h9
        refine r_iload_n hK d_X4_digits_50 rfl rfl ?_
        refine r_bipush hK d_X4_digits_51 cb_10 ?_
        refine r_imul hK d_X4_digits_53 ?_
        refine r_aload_n hK d_X4_digits_54 rfl rfl ?_
        refine r_getR hK d_X4_digits_55 fl_RX4_9_4 rfl hk0 ?_
        refine r_ref (b := 1) (ly_rd4 _ hk0) ?_
        refine r_aload_n hK d_X4_digits_58 rfl rfl ?_
        refine r_getI hK d_X4_digits_59 fl_RX4_15_4 rfl hk0 ?_
        obtain ⟨v12, u11, e10, hD⟩ := bd_e hD
        refine r_callV (As := [.int (gI u6 a0 1)]) (st := [.int (x2 * (10 : Int32))]) (stk2 := [.int v12, .int (x2 * (10 : Int32))]) hK (C_X8_signAt  e10) d_X4_digits_62 mf_X8_signAt ml_RX4_22 im_X8_signAt rfl se_7_RX8_X8_signAt kd_1 rfl (Nat.le_of_ble_eq_true rfl) (by decide) ⟨Nat.zero_le _, Nat.zero_le _⟩ rfl rfl ?_
        refine r_iadd hK d_X4_digits_65 ?_
        refine r_bipush hK d_X4_digits_66 cb_48 ?_
        refine r_isub hK d_X4_digits_68 ?_
        refine r_lti hD (fun v13 hD => ?_)
        refine r_istore_n hK d_X4_digits_69 rfl (by decide) (ls2 := [.ref a0, .int x1, .int v13, .int x3]) rfl ?_
        refine r_iinc hK d_X4_digits_70 rfl (v := x3 + (1 : Int32)) (by rw [ci_1]) (by decide) (ls2 := [.ref a0, .int x1, .int v13, .int (x3 + (1 : Int32))]) rfl ?_
        refine r_aload_n hK d_X4_digits_73 rfl rfl ?_
        refine r_dup hK d_X4_digits_74 rfl ?_
        refine r_getI hK d_X4_digits_75 fl_RX4_15_4 rfl hk0 ?_
        refine r_iconst hK d_X4_digits_78 ci_1 ?_
        refine r_iadd hK d_X4_digits_79 ?_
        refine r_putI hK d_X4_digits_80 fl_RX4_15_4 rfl rfl hk0 ?_
        refine r_ltm hD (fun u14 hD => ?_)
        refine r_goto (tgt := 9) hK d_X4_digits_83 (by decide) ?_
        exact hq9 _ _ _ _ _ hk0 hD
      · have hD := if_t hD h9
        refine r_aload_n hK d_X4_digits_40 rfl rfl ?_
        refine r_aload_n hK d_X4_digits_41 rfl rfl ?_
        refine r_getI hK d_X4_digits_42 fl_RX4_15_4 rfl hk0 ?_
        obtain ⟨u16, e15, hD⟩ := bd0_e hD
        refine r_callV (As := [.int (gI u6 a0 1)]) (st := []) (stk2 := []) hK (C_X4_failAt_4 hk0 e15) d_X4_digits_45 mf_X4_failAt ml_RX4_36 im_X4_failAt rfl se_4_RX4_X4_failAt hk0 rfl (Nat.le_of_ble_eq_true rfl) (by decide) ⟨Nat.zero_le _, Nat.zero_le _⟩ rfl rfl ?_
        refine r_iload_n hK d_X4_digits_48 rfl rfl ?_
        cases hD
        exact r_iret hK d_X4_digits_49
set_option maxRecDepth 20000 in
theorem TL_X4_digits_9_4  (hK : KC p R s m args meth c ad g tyc RX4 cX4_digits 4 (some .int) 2) {r : Int32} {μ2 : gs_M}   : ∀ (n : Nat) (a0 : Nat) (x1 : Int32) (x2 : Int32) (x3 : Int32) (μ : gs_M), kd a0 = 4 → L_X4_digits_9  n a0 x1 x2 x3 μ = some (r, μ2) → WJ p l e R s m args below meth c 0 0 (MQ below (gs_Q ad g tyc (some (.int r)) μ2) args s 0 0 (gs_A ad)) ad g tyc 4 9 [.ref a0, .int x1, .int x2, .int x3] [] μ := by
  intro n
  induction n with
  | zero => intro a0 x1 x2 x3 μ hk0 hD; cases hD
  | succ n ih => intro a0 x1 x2 x3 μ hk0 hD; exact To_X4_digits_9_4 hK  ih hk0 hD
set_option maxRecDepth 20000 in
theorem C_X4_digits_4  {a0 : Nat} {x1 : Int32} {μ : gs_M} {r : Int32} {μ2 : gs_M} (hk0 : kd a0 = 4) (hD : D_X4_digits a0 x1 μ = some (r, μ2)) : CALL yX4_digits cX4_digits 4 (some .int) 2 [.ref a0, .int x1] μ (some (.int r)) μ2 := by
  unfold D_X4_digits at hD
  refine gs_enter mf_X4_digits (Nat.le_of_ble_eq_true rfl) (ls := [.ref a0, .int x1, gs_J, gs_J]) rfl (fun p l e R s m args below meth c ad g tyc hK => ?_)
  have hK : KC p R s m args meth c ad g tyc RX4 cX4_digits 4 (some .int) 2 := hK
  refine r_iconst hK d_X4_digits_0 ci_0 ?_
  refine r_istore_n hK d_X4_digits_1 rfl (by decide) (ls2 := [.ref a0, .int x1, .int (0 : Int32), gs_J]) rfl ?_
  refine r_iconst hK d_X4_digits_2 ci_0 ?_
  refine r_istore_n hK d_X4_digits_3 rfl (by decide) (ls2 := [.ref a0, .int x1, .int (0 : Int32), .int (0 : Int32)]) rfl ?_
  refine r_aload_n hK d_X4_digits_4 rfl rfl ?_
  obtain ⟨v3, u2, e1, hD⟩ := bd_e hD
  refine r_callV (As := []) (st := []) (stk2 := [.int v3]) hK (C_X4_next_4 hk0 e1) d_X4_digits_5 mf_X4_next ml_RX4_28 im_X4_next rfl se_4_RX4_X4_next hk0 rfl (Nat.le_of_ble_eq_true rfl) (by decide) ⟨Nat.zero_le _, Nat.zero_le _⟩ rfl rfl ?_
  refine r_pop hK d_X4_digits_8 rfl ?_
  exact TL_X4_digits_9_4 hK  _ _ _ _ _ _ hk0 hD
end S_X4_digits_4
theorem d_X4_finish_0 : gd cX4_finish 0 (.aload_n 0) 1 1 := ⟨by decide +kernel, rfl⟩
theorem d_X4_finish_1 : gd cX4_finish 1 (.invokevirtual 28) 3 4 := ⟨by decide +kernel, rfl⟩
theorem d_X4_finish_4 : gd cX4_finish 4 (.iconst (-1)) 1 5 := ⟨by decide +kernel, rfl⟩
theorem d_X4_finish_5 : gd cX4_finish 5 (.if_icmp .eq 11) 3 8 := ⟨by decide +kernel, rfl⟩
theorem d_X4_finish_8 : gd cX4_finish 8 (.aload_n 0) 1 9 := ⟨by decide +kernel, rfl⟩
theorem d_X4_finish_9 : gd cX4_finish 9 (.aload_n 0) 1 10 := ⟨by decide +kernel, rfl⟩
theorem d_X4_finish_10 : gd cX4_finish 10 (.getfield 15) 3 13 := ⟨by decide +kernel, rfl⟩
theorem d_X4_finish_13 : gd cX4_finish 13 (.invokevirtual 36) 3 16 := ⟨by decide +kernel, rfl⟩
theorem d_X4_finish_16 : gd cX4_finish 16 (.aload_n 0) 1 17 := ⟨by decide +kernel, rfl⟩
theorem d_X4_finish_17 : gd cX4_finish 17 (.getfield 19) 3 20 := ⟨by decide +kernel, rfl⟩
theorem d_X4_finish_20 : gd cX4_finish 20 .ireturn 1 21 := ⟨by decide +kernel, rfl⟩
def D_X4_finish (a0 : Nat) (μ : gs_M) : Option (Int32 × gs_M) :=
  bd (D_X4_next a0 μ) (fun v3 u2 => if v3 = (-1 : Int32) then (some (gI u2 a0 2, u2)) else (bd0 (D_X4_failAt a0 (gI u2 a0 1) u2) (fun u6 => some (gI u6 a0 2, u6))))
section S_X4_finish_2
variable {p : Program} {l : Launch} {e : Env} {R : Room} {s : State} {m : MethodId} {args : Array Value} {below : List Frame} {meth : Method} {c : Code} {ad : Nat → Nat} {g : va_G} {tyc : Nat → ClassId}
set_option maxRecDepth 20000 in
theorem C_X4_finish_2  {a0 : Nat} {μ : gs_M} {r : Int32} {μ2 : gs_M} (hk0 : kd a0 = 2) (hD : D_X4_finish a0 μ = some (r, μ2)) : CALL yX4_finish cX4_finish 1 (some .int) 2 [.ref a0] μ (some (.int r)) μ2 := by
  unfold D_X4_finish at hD
  refine gs_enter mf_X4_finish (Nat.le_of_ble_eq_true rfl) (ls := [.ref a0]) rfl (fun p l e R s m args below meth c ad g tyc hK => ?_)
  have hK : KC p R s m args meth c ad g tyc RX4 cX4_finish 1 (some .int) 2 := hK
  refine r_aload_n hK d_X4_finish_0 rfl rfl ?_
  obtain ⟨v3, u2, e1, hD⟩ := bd_e hD
  refine r_callV (As := []) (st := []) (stk2 := [.int v3]) hK (C_X4_next_2 hk0 e1) d_X4_finish_1 mf_X4_next ml_RX4_28 im_X4_next rfl se_2_RX4_X4_next hk0 rfl (Nat.le_of_ble_eq_true rfl) (by decide) ⟨Nat.zero_le _, Nat.zero_le _⟩ rfl rfl ?_
  refine r_iconst hK d_X4_finish_4 ci_m1 ?_
  refine r_icmp_eq (tgt := 16) hK d_X4_finish_5 (by decide) (fun h4 => ?_) (fun h4 => ?_)
  · have hD := if_t hD h4
    refine r_aload_n hK d_X4_finish_16 rfl rfl ?_
    refine r_getI hK d_X4_finish_17 fl_RX4_19_2 rfl hk0 ?_
    cases hD
    exact r_iret hK d_X4_finish_20
  · have hD := if_f hD h4
    refine r_aload_n hK d_X4_finish_8 rfl rfl ?_
    refine r_aload_n hK d_X4_finish_9 rfl rfl ?_
    refine r_getI hK d_X4_finish_10 fl_RX4_15_2 rfl hk0 ?_
    obtain ⟨u6, e5, hD⟩ := bd0_e hD
    refine r_callV (As := [.int (gI u2 a0 1)]) (st := []) (stk2 := []) hK (C_X4_failAt_2 hk0 e5) d_X4_finish_13 mf_X4_failAt ml_RX4_36 im_X4_failAt rfl se_2_RX4_X4_failAt hk0 rfl (Nat.le_of_ble_eq_true rfl) (by decide) ⟨Nat.zero_le _, Nat.zero_le _⟩ rfl rfl ?_
    refine r_aload_n hK d_X4_finish_16 rfl rfl ?_
    refine r_getI hK d_X4_finish_17 fl_RX4_19_2 rfl hk0 ?_
    cases hD
    exact r_iret hK d_X4_finish_20
end S_X4_finish_2
section S_X4_finish_4
variable {p : Program} {l : Launch} {e : Env} {R : Room} {s : State} {m : MethodId} {args : Array Value} {below : List Frame} {meth : Method} {c : Code} {ad : Nat → Nat} {g : va_G} {tyc : Nat → ClassId}
set_option maxRecDepth 20000 in
theorem C_X4_finish_4  {a0 : Nat} {μ : gs_M} {r : Int32} {μ2 : gs_M} (hk0 : kd a0 = 4) (hD : D_X4_finish a0 μ = some (r, μ2)) : CALL yX4_finish cX4_finish 1 (some .int) 2 [.ref a0] μ (some (.int r)) μ2 := by
  unfold D_X4_finish at hD
  refine gs_enter mf_X4_finish (Nat.le_of_ble_eq_true rfl) (ls := [.ref a0]) rfl (fun p l e R s m args below meth c ad g tyc hK => ?_)
  have hK : KC p R s m args meth c ad g tyc RX4 cX4_finish 1 (some .int) 2 := hK
  refine r_aload_n hK d_X4_finish_0 rfl rfl ?_
  obtain ⟨v3, u2, e1, hD⟩ := bd_e hD
  refine r_callV (As := []) (st := []) (stk2 := [.int v3]) hK (C_X4_next_4 hk0 e1) d_X4_finish_1 mf_X4_next ml_RX4_28 im_X4_next rfl se_4_RX4_X4_next hk0 rfl (Nat.le_of_ble_eq_true rfl) (by decide) ⟨Nat.zero_le _, Nat.zero_le _⟩ rfl rfl ?_
  refine r_iconst hK d_X4_finish_4 ci_m1 ?_
  refine r_icmp_eq (tgt := 16) hK d_X4_finish_5 (by decide) (fun h4 => ?_) (fun h4 => ?_)
  · have hD := if_t hD h4
    refine r_aload_n hK d_X4_finish_16 rfl rfl ?_
    refine r_getI hK d_X4_finish_17 fl_RX4_19_4 rfl hk0 ?_
    cases hD
    exact r_iret hK d_X4_finish_20
  · have hD := if_f hD h4
    refine r_aload_n hK d_X4_finish_8 rfl rfl ?_
    refine r_aload_n hK d_X4_finish_9 rfl rfl ?_
    refine r_getI hK d_X4_finish_10 fl_RX4_15_4 rfl hk0 ?_
    obtain ⟨u6, e5, hD⟩ := bd0_e hD
    refine r_callV (As := [.int (gI u2 a0 1)]) (st := []) (stk2 := []) hK (C_X4_failAt_4 hk0 e5) d_X4_finish_13 mf_X4_failAt ml_RX4_36 im_X4_failAt rfl se_4_RX4_X4_failAt hk0 rfl (Nat.le_of_ble_eq_true rfl) (by decide) ⟨Nat.zero_le _, Nat.zero_le _⟩ rfl rfl ?_
    refine r_aload_n hK d_X4_finish_16 rfl rfl ?_
    refine r_getI hK d_X4_finish_17 fl_RX4_19_4 rfl hk0 ?_
    cases hD
    exact r_iret hK d_X4_finish_20
end S_X4_finish_4
theorem d_X2_itemOf_0 : gd cX2_itemOf 0 (.iconst 0) 1 1 := ⟨by decide +kernel, rfl⟩
theorem d_X2_itemOf_1 : gd cX2_itemOf 1 (.istore_n 2) 1 2 := ⟨by decide +kernel, rfl⟩
theorem d_X2_itemOf_2 : gd cX2_itemOf 2 (.iload_n 2) 1 3 := ⟨by decide +kernel, rfl⟩
theorem d_X2_itemOf_3 : gd cX2_itemOf 3 (.iconst 5) 1 4 := ⟨by decide +kernel, rfl⟩
theorem d_X2_itemOf_4 : gd cX2_itemOf 4 (.if_icmp .ge 31) 3 7 := ⟨by decide +kernel, rfl⟩
theorem d_X2_itemOf_7 : gd cX2_itemOf 7 (.iload_n 1) 1 8 := ⟨by decide +kernel, rfl⟩
theorem d_X2_itemOf_8 : gd cX2_itemOf 8 (.ifCond .eq 21) 3 11 := ⟨by decide +kernel, rfl⟩
theorem d_X2_itemOf_11 : gd cX2_itemOf 11 (.getstatic 62) 3 14 := ⟨by decide +kernel, rfl⟩
theorem d_X2_itemOf_14 : gd cX2_itemOf 14 (.aload_n 0) 1 15 := ⟨by decide +kernel, rfl⟩
theorem d_X2_itemOf_15 : gd cX2_itemOf 15 (.getfield 23) 3 18 := ⟨by decide +kernel, rfl⟩
theorem d_X2_itemOf_18 : gd cX2_itemOf 18 (.iconst 5) 1 19 := ⟨by decide +kernel, rfl⟩
theorem d_X2_itemOf_19 : gd cX2_itemOf 19 .imul 1 20 := ⟨by decide +kernel, rfl⟩
theorem d_X2_itemOf_20 : gd cX2_itemOf 20 (.iload_n 2) 1 21 := ⟨by decide +kernel, rfl⟩
theorem d_X2_itemOf_21 : gd cX2_itemOf 21 .iadd 1 22 := ⟨by decide +kernel, rfl⟩
theorem d_X2_itemOf_22 : gd cX2_itemOf 22 .caload 1 23 := ⟨by decide +kernel, rfl⟩
theorem d_X2_itemOf_23 : gd cX2_itemOf 23 (.iload_n 1) 1 24 := ⟨by decide +kernel, rfl⟩
theorem d_X2_itemOf_24 : gd cX2_itemOf 24 (.if_icmp .ne 5) 3 27 := ⟨by decide +kernel, rfl⟩
theorem d_X2_itemOf_27 : gd cX2_itemOf 27 (.iload_n 2) 1 28 := ⟨by decide +kernel, rfl⟩
theorem d_X2_itemOf_28 : gd cX2_itemOf 28 .ireturn 1 29 := ⟨by decide +kernel, rfl⟩
theorem d_X2_itemOf_29 : gd cX2_itemOf 29 (.iinc 2 1) 3 32 := ⟨by decide +kernel, rfl⟩
theorem d_X2_itemOf_32 : gd cX2_itemOf 32 (.goto (-30)) 3 35 := ⟨by decide +kernel, rfl⟩
theorem d_X2_itemOf_35 : gd cX2_itemOf 35 (.iconst (-1)) 1 36 := ⟨by decide +kernel, rfl⟩
theorem d_X2_itemOf_36 : gd cX2_itemOf 36 .ireturn 1 37 := ⟨by decide +kernel, rfl⟩
def Bo_X2_itemOf_2 (q2 : Int32 → Int32 → gs_M → Option (Int32 × gs_M)) (x1 : Int32) (x2 : Int32) (μ : gs_M) : Option (Int32 × gs_M) :=
  if (5 : Int32) ≤ x2 then (some ((-1 : Int32), μ)) else (if x1 = 0 then (q2 x1 (x2 + (1 : Int32)) μ) else (ck (inb (((gI μ 3 5) * (5 : Int32)) + x2) 15) (if (cA 0 (Int32.toNatClampNeg (((gI μ 3 5) * (5 : Int32)) + x2))) = x1 then (some (x2, μ)) else (q2 x1 (x2 + (1 : Int32)) μ))))
def L_X2_itemOf_2  : Nat → Int32 → Int32 → gs_M → Option (Int32 × gs_M)
  | 0 => fun _ _ _ => none
  | n + 1 => fun x1 x2 μ => Bo_X2_itemOf_2  (L_X2_itemOf_2  n) x1 x2 μ
def D_X2_itemOf (x1 : Int32) (μ : gs_M) : Option (Int32 × gs_M) :=
  L_X2_itemOf_2 4096 x1 (0 : Int32) μ
section S_X2_itemOf
variable {p : Program} {l : Launch} {e : Env} {R : Room} {s : State} {m : MethodId} {args : Array Value} {below : List Frame} {meth : Method} {c : Code} {ad : Nat → Nat} {g : va_G} {tyc : Nat → ClassId}
set_option maxRecDepth 20000 in
theorem To_X2_itemOf_2  (hK : KC p R s m args meth c ad g tyc RX2 cX2_itemOf 3 (some .int) 0) {r : Int32} {μ2 : gs_M} {q2 : Int32 → Int32 → gs_M → Option (Int32 × gs_M)} (hq2 : ∀ (x1 : Int32) (x2 : Int32) (μ : gs_M), q2 x1 x2 μ = some (r, μ2) → WJ p l e R s m args below meth c 0 0 (MQ below (gs_Q ad g tyc (some (.int r)) μ2) args s 0 0 (gs_A ad)) ad g tyc 3 2 [.ref 3, .int x1, .int x2] [] μ) {x1 : Int32} {x2 : Int32} {μ : gs_M}  (hD : Bo_X2_itemOf_2 q2 x1 x2 μ = some (r, μ2)) : WJ p l e R s m args below meth c 0 0 (MQ below (gs_Q ad g tyc (some (.int r)) μ2) args s 0 0 (gs_A ad)) ad g tyc 3 2 [.ref 3, .int x1, .int x2] [] μ := by
  unfold Bo_X2_itemOf_2 at hD
  refine r_iload_n hK d_X2_itemOf_2 rfl rfl ?_
  refine r_iconst hK d_X2_itemOf_3 ci_5 ?_
  refine r_icmp_ge (tgt := 35) hK d_X2_itemOf_4 (by decide) (fun h1 => ?_) (fun h1 => ?_)
  · have hD := if_t hD h1
    refine r_iconst hK d_X2_itemOf_35 ci_m1 ?_
    cases hD
    exact r_iret hK d_X2_itemOf_36
  · have hD := if_f hD h1
    refine r_iload_n hK d_X2_itemOf_7 rfl rfl ?_
    refine r_if_eq (tgt := 29) hK d_X2_itemOf_8 (by decide) (fun h2 => ?_) (fun h2 => ?_)
    · have hD := if_t hD h2
      refine r_iinc hK d_X2_itemOf_29 rfl (v := x2 + (1 : Int32)) (by rw [ci_1]) (by decide) (ls2 := [.ref 3, .int x1, .int (x2 + (1 : Int32))]) rfl ?_
      refine r_goto (tgt := 2) hK d_X2_itemOf_32 (by decide) ?_
      exact hq2 _ _ _  hD
    · have hD := if_f hD h2
      refine r_gets (k := 0) hK d_X2_itemOf_11 fn_RX2_62 (fun _ _ q => q.1) ?_
      refine r_aload_n hK d_X2_itemOf_14 rfl rfl ?_
      refine r_getI hK d_X2_itemOf_15 fl_RX2_23_2 rfl kd_3 ?_
      refine r_iconst hK d_X2_itemOf_18 ci_5 ?_
      refine r_imul hK d_X2_itemOf_19 ?_
      refine r_iload_n hK d_X2_itemOf_20 rfl rfl ?_
      refine r_iadd hK d_X2_itemOf_21 ?_
      obtain ⟨h3, hD⟩ := ck_e hD
      refine r_tc (k := 0) hK d_X2_itemOf_22 (fun _ _ q => q.1) (inb_in h3) ?_
      refine r_iload_n hK d_X2_itemOf_23 rfl rfl ?_
      refine r_icmp_ne (tgt := 29) hK d_X2_itemOf_24 (by decide) (fun h4 => ?_) (fun h4 => ?_)
      · have hD := if_f hD h4
        refine r_iinc hK d_X2_itemOf_29 rfl (v := x2 + (1 : Int32)) (by rw [ci_1]) (by decide) (ls2 := [.ref 3, .int x1, .int (x2 + (1 : Int32))]) rfl ?_
        refine r_goto (tgt := 2) hK d_X2_itemOf_32 (by decide) ?_
        exact hq2 _ _ _  hD
      · have hD := if_t hD h4
        refine r_iload_n hK d_X2_itemOf_27 rfl rfl ?_
        cases hD
        exact r_iret hK d_X2_itemOf_28
set_option maxRecDepth 20000 in
theorem TL_X2_itemOf_2  (hK : KC p R s m args meth c ad g tyc RX2 cX2_itemOf 3 (some .int) 0) {r : Int32} {μ2 : gs_M}   : ∀ (n : Nat) (x1 : Int32) (x2 : Int32) (μ : gs_M), L_X2_itemOf_2  n x1 x2 μ = some (r, μ2) → WJ p l e R s m args below meth c 0 0 (MQ below (gs_Q ad g tyc (some (.int r)) μ2) args s 0 0 (gs_A ad)) ad g tyc 3 2 [.ref 3, .int x1, .int x2] [] μ := by
  intro n
  induction n with
  | zero => intro x1 x2 μ  hD; cases hD
  | succ n ih => intro x1 x2 μ  hD; exact To_X2_itemOf_2 hK  ih  hD
set_option maxRecDepth 20000 in
theorem C_X2_itemOf  {x1 : Int32} {μ : gs_M} {r : Int32} {μ2 : gs_M}  (hD : D_X2_itemOf x1 μ = some (r, μ2)) : CALL yX2_itemOf cX2_itemOf 3 (some .int) 0 [.ref 3, .int x1] μ (some (.int r)) μ2 := by
  unfold D_X2_itemOf at hD
  refine gs_enter mf_X2_itemOf (Nat.le_of_ble_eq_true rfl) (ls := [.ref 3, .int x1, gs_J]) rfl (fun p l e R s m args below meth c ad g tyc hK => ?_)
  have hK : KC p R s m args meth c ad g tyc RX2 cX2_itemOf 3 (some .int) 0 := hK
  refine r_iconst hK d_X2_itemOf_0 ci_0 ?_
  refine r_istore_n hK d_X2_itemOf_1 rfl (by decide) (ls2 := [.ref 3, .int x1, .int (0 : Int32)]) rfl ?_
  exact TL_X2_itemOf_2 hK  _ _ _ _  hD
end S_X2_itemOf
theorem d_X2_readNumber_0 : gd cX2_readNumber 0 (.aload_n 0) 1 1 := ⟨by decide +kernel, rfl⟩
theorem d_X2_readNumber_1 : gd cX2_readNumber 1 (.iconst 3) 1 2 := ⟨by decide +kernel, rfl⟩
theorem d_X2_readNumber_2 : gd cX2_readNumber 2 (.invokevirtual 66) 3 5 := ⟨by decide +kernel, rfl⟩
theorem d_X2_readNumber_5 : gd cX2_readNumber 5 (.istore_n 3) 1 6 := ⟨by decide +kernel, rfl⟩
theorem d_X2_readNumber_6 : gd cX2_readNumber 6 (.aload_n 0) 1 7 := ⟨by decide +kernel, rfl⟩
theorem d_X2_readNumber_7 : gd cX2_readNumber 7 (.invokevirtual 69) 3 10 := ⟨by decide +kernel, rfl⟩
theorem d_X2_readNumber_10 : gd cX2_readNumber 10 (.ifCond .eq 44) 3 13 := ⟨by decide +kernel, rfl⟩
theorem d_X2_readNumber_13 : gd cX2_readNumber 13 (.iload_n 3) 1 14 := ⟨by decide +kernel, rfl⟩
theorem d_X2_readNumber_14 : gd cX2_readNumber 14 (.getstatic 73) 3 17 := ⟨by decide +kernel, rfl⟩
theorem d_X2_readNumber_17 : gd cX2_readNumber 17 (.aload_n 0) 1 18 := ⟨by decide +kernel, rfl⟩
theorem d_X2_readNumber_18 : gd cX2_readNumber 18 (.getfield 23) 3 21 := ⟨by decide +kernel, rfl⟩
theorem d_X2_readNumber_21 : gd cX2_readNumber 21 (.iconst 5) 1 22 := ⟨by decide +kernel, rfl⟩
theorem d_X2_readNumber_22 : gd cX2_readNumber 22 .imul 1 23 := ⟨by decide +kernel, rfl⟩
theorem d_X2_readNumber_23 : gd cX2_readNumber 23 (.iload_n 2) 1 24 := ⟨by decide +kernel, rfl⟩
theorem d_X2_readNumber_24 : gd cX2_readNumber 24 .iadd 1 25 := ⟨by decide +kernel, rfl⟩
theorem d_X2_readNumber_25 : gd cX2_readNumber 25 .iaload 1 26 := ⟨by decide +kernel, rfl⟩
theorem d_X2_readNumber_26 : gd cX2_readNumber 26 (.getstatic 76) 3 29 := ⟨by decide +kernel, rfl⟩
theorem d_X2_readNumber_29 : gd cX2_readNumber 29 (.aload_n 0) 1 30 := ⟨by decide +kernel, rfl⟩
theorem d_X2_readNumber_30 : gd cX2_readNumber 30 (.getfield 23) 3 33 := ⟨by decide +kernel, rfl⟩
theorem d_X2_readNumber_33 : gd cX2_readNumber 33 (.iconst 5) 1 34 := ⟨by decide +kernel, rfl⟩
theorem d_X2_readNumber_34 : gd cX2_readNumber 34 .imul 1 35 := ⟨by decide +kernel, rfl⟩
theorem d_X2_readNumber_35 : gd cX2_readNumber 35 (.iload_n 2) 1 36 := ⟨by decide +kernel, rfl⟩
theorem d_X2_readNumber_36 : gd cX2_readNumber 36 .iadd 1 37 := ⟨by decide +kernel, rfl⟩
theorem d_X2_readNumber_37 : gd cX2_readNumber 37 .iaload 1 38 := ⟨by decide +kernel, rfl⟩
theorem d_X2_readNumber_38 : gd cX2_readNumber 38 (.invokestatic 19) 3 41 := ⟨by decide +kernel, rfl⟩
theorem d_X2_readNumber_41 : gd cX2_readNumber 41 (.ifCond .ne 13) 3 44 := ⟨by decide +kernel, rfl⟩
theorem d_X2_readNumber_44 : gd cX2_readNumber 44 (.aload_n 0) 1 45 := ⟨by decide +kernel, rfl⟩
theorem d_X2_readNumber_45 : gd cX2_readNumber 45 (.aload_n 0) 1 46 := ⟨by decide +kernel, rfl⟩
theorem d_X2_readNumber_46 : gd cX2_readNumber 46 (.getfield 52) 3 49 := ⟨by decide +kernel, rfl⟩
theorem d_X2_readNumber_49 : gd cX2_readNumber 49 (.iconst 1) 1 50 := ⟨by decide +kernel, rfl⟩
theorem d_X2_readNumber_50 : gd cX2_readNumber 50 .isub 1 51 := ⟨by decide +kernel, rfl⟩
theorem d_X2_readNumber_51 : gd cX2_readNumber 51 (.invokevirtual 55) 3 54 := ⟨by decide +kernel, rfl⟩
theorem d_X2_readNumber_54 : gd cX2_readNumber 54 (.aload_n 0) 1 55 := ⟨by decide +kernel, rfl⟩
theorem d_X2_readNumber_55 : gd cX2_readNumber 55 (.getfield 9) 3 58 := ⟨by decide +kernel, rfl⟩
theorem d_X2_readNumber_58 : gd cX2_readNumber 58 (.iload_n 1) 1 59 := ⟨by decide +kernel, rfl⟩
theorem d_X2_readNumber_59 : gd cX2_readNumber 59 (.iconst 5) 1 60 := ⟨by decide +kernel, rfl⟩
theorem d_X2_readNumber_60 : gd cX2_readNumber 60 .imul 1 61 := ⟨by decide +kernel, rfl⟩
theorem d_X2_readNumber_61 : gd cX2_readNumber 61 (.iload_n 2) 1 62 := ⟨by decide +kernel, rfl⟩
theorem d_X2_readNumber_62 : gd cX2_readNumber 62 .iadd 1 63 := ⟨by decide +kernel, rfl⟩
theorem d_X2_readNumber_63 : gd cX2_readNumber 63 (.iload_n 3) 1 64 := ⟨by decide +kernel, rfl⟩
theorem d_X2_readNumber_64 : gd cX2_readNumber 64 .iastore 1 65 := ⟨by decide +kernel, rfl⟩
theorem d_X2_readNumber_65 : gd cX2_readNumber 65 .return_ 1 66 := ⟨by decide +kernel, rfl⟩
def B_X2_readNumber_54  (x1 : Int32) (x2 : Int32) (x3 : Int32) (μ : gs_M) : Option (gs_M) :=
  ck (inb ((x1 * (5 : Int32)) + x2) 20) (lt1 (sI μ 4 (Int32.toNatClampNeg ((x1 * (5 : Int32)) + x2)) x3) (fun u2 => some u2))
def D_X2_readNumber (x1 : Int32) (x2 : Int32) (μ : gs_M) : Option (gs_M) :=
  bd (D_X4_digits 3 (3 : Int32) μ) (fun v3 u2 => bd (D_X4_isSound 3 u2) (fun v6 u5 => if v6 = 0 then (B_X2_readNumber_54 x1 x2 v3 u5) else (ck (inb (((gI u5 3 5) * (5 : Int32)) + x2) 15) (ck (inb (((gI u5 3 5) * (5 : Int32)) + x2) 15) (bd (D_X11_within v3 (cA 1 (Int32.toNatClampNeg (((gI u5 3 5) * (5 : Int32)) + x2))) (cA 2 (Int32.toNatClampNeg (((gI u5 3 5) * (5 : Int32)) + x2))) u5) (fun v12 u11 => if v12 = 0 then (bd0 (D_X4_failAt 3 ((gI u11 3 1) - (1 : Int32)) u11) (fun u15 => B_X2_readNumber_54 x1 x2 v3 u15)) else (B_X2_readNumber_54 x1 x2 v3 u11)))))))
section S_X2_readNumber
variable {p : Program} {l : Launch} {e : Env} {R : Room} {s : State} {m : MethodId} {args : Array Value} {below : List Frame} {meth : Method} {c : Code} {ad : Nat → Nat} {g : va_G} {tyc : Nat → ClassId}
set_option maxRecDepth 20000 in
theorem T_X2_readNumber_54  (hK : KC p R s m args meth c ad g tyc RX2 cX2_readNumber 4 none 3) {μ2 : gs_M}   {x1 : Int32} {x2 : Int32} {x3 : Int32} {μ : gs_M}  (hD : B_X2_readNumber_54  x1 x2 x3 μ = some μ2) : WJ p l e R s m args below meth c 0 0 (MQ below (gs_Q ad g tyc none μ2) args s 0 0 (gs_A ad)) ad g tyc 4 54 [.ref 3, .int x1, .int x2, .int x3] [] μ := by
  unfold B_X2_readNumber_54 at hD
  refine r_aload_n hK d_X2_readNumber_54 rfl rfl ?_
  refine r_getR hK d_X2_readNumber_55 fl_RX2_9_2 rfl kd_3 ?_
  refine r_ref (b := 4) R0_3_3 ?_
  refine r_iload_n hK d_X2_readNumber_58 rfl rfl ?_
  refine r_iconst hK d_X2_readNumber_59 ci_5 ?_
  refine r_imul hK d_X2_readNumber_60 ?_
  refine r_iload_n hK d_X2_readNumber_61 rfl rfl ?_
  refine r_iadd hK d_X2_readNumber_62 ?_
  refine r_iload_n hK d_X2_readNumber_63 rfl rfl ?_
  obtain ⟨h1, hD⟩ := ck_e hD
  refine r_iast hK d_X2_readNumber_64 kd_4 ln_4 (inb_in h1) ?_
  refine r_ltm hD (fun u2 hD => ?_)
  cases hD
  exact r_vret hK d_X2_readNumber_65
set_option maxRecDepth 20000 in
theorem C_X2_readNumber  {x1 : Int32} {x2 : Int32} {μ : gs_M} {μ2 : gs_M}  (hD : D_X2_readNumber x1 x2 μ = some μ2) : CALL yX2_readNumber cX2_readNumber 4 none 3 [.ref 3, .int x1, .int x2] μ none μ2 := by
  unfold D_X2_readNumber at hD
  refine gs_enter mf_X2_readNumber (Nat.le_of_ble_eq_true rfl) (ls := [.ref 3, .int x1, .int x2, gs_J]) rfl (fun p l e R s m args below meth c ad g tyc hK => ?_)
  have hK : KC p R s m args meth c ad g tyc RX2 cX2_readNumber 4 none 3 := hK
  refine r_aload_n hK d_X2_readNumber_0 rfl rfl ?_
  refine r_iconst hK d_X2_readNumber_1 ci_3 ?_
  obtain ⟨v3, u2, e1, hD⟩ := bd_e hD
  refine r_callU (As := [.int (3 : Int32)]) (st := []) (stk2 := [.int v3]) hK (C_X4_digits_2 kd_3 e1) d_X2_readNumber_2 mf_X4_digits ml_RX2_66 sm_RX2_X4_digits ⟨rfl, rfl⟩ im_X4_digits rfl se_2_RX2_X4_digits kd_3 rfl (Nat.le_of_ble_eq_true rfl) (by decide) ⟨Nat.zero_le _, Nat.zero_le _⟩ rfl rfl ?_
  refine r_istore_n hK d_X2_readNumber_5 rfl (by decide) (ls2 := [.ref 3, .int x1, .int x2, .int v3]) rfl ?_
  refine r_aload_n hK d_X2_readNumber_6 rfl rfl ?_
  obtain ⟨v6, u5, e4, hD⟩ := bd_e hD
  refine r_callU (As := []) (st := []) (stk2 := [.int v6]) hK (C_X4_isSound_2 kd_3 e4) d_X2_readNumber_7 mf_X4_isSound ml_RX2_69 sm_RX2_X4_isSound ⟨rfl, rfl⟩ im_X4_isSound rfl se_2_RX2_X4_isSound kd_3 rfl (Nat.le_of_ble_eq_true rfl) (by decide) ⟨Nat.zero_le _, Nat.zero_le _⟩ rfl rfl ?_
  refine r_if_eq (tgt := 54) hK d_X2_readNumber_10 (by decide) (fun h7 => ?_) (fun h7 => ?_)
  · have hD := if_t hD h7
    exact T_X2_readNumber_54 hK   hD
  · have hD := if_f hD h7
    refine r_iload_n hK d_X2_readNumber_13 rfl rfl ?_
    refine r_gets (k := 1) hK d_X2_readNumber_14 fn_RX2_73 (fun _ _ q => q.2.1) ?_
    refine r_aload_n hK d_X2_readNumber_17 rfl rfl ?_
    refine r_getI hK d_X2_readNumber_18 fl_RX2_23_2 rfl kd_3 ?_
    refine r_iconst hK d_X2_readNumber_21 ci_5 ?_
    refine r_imul hK d_X2_readNumber_22 ?_
    refine r_iload_n hK d_X2_readNumber_23 rfl rfl ?_
    refine r_iadd hK d_X2_readNumber_24 ?_
    obtain ⟨h8, hD⟩ := ck_e hD
    refine r_ti (k := 1) hK d_X2_readNumber_25 (fun _ _ q => q.2.1) (inb_in h8) ?_
    refine r_gets (k := 2) hK d_X2_readNumber_26 fn_RX2_76 (fun _ _ q => q.2.2.1) ?_
    refine r_aload_n hK d_X2_readNumber_29 rfl rfl ?_
    refine r_getI hK d_X2_readNumber_30 fl_RX2_23_2 rfl kd_3 ?_
    refine r_iconst hK d_X2_readNumber_33 ci_5 ?_
    refine r_imul hK d_X2_readNumber_34 ?_
    refine r_iload_n hK d_X2_readNumber_35 rfl rfl ?_
    refine r_iadd hK d_X2_readNumber_36 ?_
    obtain ⟨h9, hD⟩ := ck_e hD
    refine r_ti (k := 2) hK d_X2_readNumber_37 (fun _ _ q => q.2.2.1) (inb_in h9) ?_
    obtain ⟨v12, u11, e10, hD⟩ := bd_e hD
    refine r_callSN (As := [.int v3, .int (cA 1 (Int32.toNatClampNeg (((gI u5 3 5) * (5 : Int32)) + x2))), .int (cA 2 (Int32.toNatClampNeg (((gI u5 3 5) * (5 : Int32)) + x2)))]) (st := []) (stk2 := [.int v12]) hK (C_X11_within  e10) d_X2_readNumber_38 mf_X11_within mn_RX2_19 ss_X11_within rfl (Nat.le_of_ble_eq_true rfl) (by decide) ⟨Nat.zero_le _, Nat.zero_le _⟩ rfl rfl ?_
    refine r_if_ne (tgt := 54) hK d_X2_readNumber_41 (by decide) (fun h13 => ?_) (fun h13 => ?_)
    · have hD := if_f hD h13
      exact T_X2_readNumber_54 hK   hD
    · have hD := if_t hD h13
      refine r_aload_n hK d_X2_readNumber_44 rfl rfl ?_
      refine r_aload_n hK d_X2_readNumber_45 rfl rfl ?_
      refine r_getI hK d_X2_readNumber_46 fl_RX2_52_2 rfl kd_3 ?_
      refine r_iconst hK d_X2_readNumber_49 ci_1 ?_
      refine r_isub hK d_X2_readNumber_50 ?_
      obtain ⟨u15, e14, hD⟩ := bd0_e hD
      refine r_callU (As := [.int ((gI u11 3 1) - (1 : Int32))]) (st := []) (stk2 := []) hK (C_X4_failAt_2 kd_3 e14) d_X2_readNumber_51 mf_X4_failAt ml_RX2_55 sm_RX2_X4_failAt ⟨rfl, rfl⟩ im_X4_failAt rfl se_2_RX2_X4_failAt kd_3 rfl (Nat.le_of_ble_eq_true rfl) (by decide) ⟨Nat.zero_le _, Nat.zero_le _⟩ rfl rfl ?_
      exact T_X2_readNumber_54 hK   hD
end S_X2_readNumber
theorem d_X2_readRow_0 : gd cX2_readRow 0 (.iconst 0) 1 1 := ⟨by decide +kernel, rfl⟩
theorem d_X2_readRow_1 : gd cX2_readRow 1 (.istore_n 2) 1 2 := ⟨by decide +kernel, rfl⟩
theorem d_X2_readRow_2 : gd cX2_readRow 2 (.iload_n 2) 1 3 := ⟨by decide +kernel, rfl⟩
theorem d_X2_readRow_3 : gd cX2_readRow 3 (.iconst 5) 1 4 := ⟨by decide +kernel, rfl⟩
theorem d_X2_readRow_4 : gd cX2_readRow 4 (.if_icmp .ge 31) 3 7 := ⟨by decide +kernel, rfl⟩
theorem d_X2_readRow_7 : gd cX2_readRow 7 (.aload_n 0) 1 8 := ⟨by decide +kernel, rfl⟩
theorem d_X2_readRow_8 : gd cX2_readRow 8 (.getfield 9) 3 11 := ⟨by decide +kernel, rfl⟩
theorem d_X2_readRow_11 : gd cX2_readRow 11 (.iload_n 1) 1 12 := ⟨by decide +kernel, rfl⟩
theorem d_X2_readRow_12 : gd cX2_readRow 12 (.iconst 5) 1 13 := ⟨by decide +kernel, rfl⟩
theorem d_X2_readRow_13 : gd cX2_readRow 13 .imul 1 14 := ⟨by decide +kernel, rfl⟩
theorem d_X2_readRow_14 : gd cX2_readRow 14 (.iload_n 2) 1 15 := ⟨by decide +kernel, rfl⟩
theorem d_X2_readRow_15 : gd cX2_readRow 15 .iadd 1 16 := ⟨by decide +kernel, rfl⟩
theorem d_X2_readRow_16 : gd cX2_readRow 16 (.getstatic 42) 3 19 := ⟨by decide +kernel, rfl⟩
theorem d_X2_readRow_19 : gd cX2_readRow 19 (.aload_n 0) 1 20 := ⟨by decide +kernel, rfl⟩
theorem d_X2_readRow_20 : gd cX2_readRow 20 (.getfield 23) 3 23 := ⟨by decide +kernel, rfl⟩
theorem d_X2_readRow_23 : gd cX2_readRow 23 (.iconst 5) 1 24 := ⟨by decide +kernel, rfl⟩
theorem d_X2_readRow_24 : gd cX2_readRow 24 .imul 1 25 := ⟨by decide +kernel, rfl⟩
theorem d_X2_readRow_25 : gd cX2_readRow 25 (.iload_n 2) 1 26 := ⟨by decide +kernel, rfl⟩
theorem d_X2_readRow_26 : gd cX2_readRow 26 .iadd 1 27 := ⟨by decide +kernel, rfl⟩
theorem d_X2_readRow_27 : gd cX2_readRow 27 .iaload 1 28 := ⟨by decide +kernel, rfl⟩
theorem d_X2_readRow_28 : gd cX2_readRow 28 .iastore 1 29 := ⟨by decide +kernel, rfl⟩
theorem d_X2_readRow_29 : gd cX2_readRow 29 (.iinc 2 1) 3 32 := ⟨by decide +kernel, rfl⟩
theorem d_X2_readRow_32 : gd cX2_readRow 32 (.goto (-30)) 3 35 := ⟨by decide +kernel, rfl⟩
theorem d_X2_readRow_35 : gd cX2_readRow 35 (.iconst 0) 1 36 := ⟨by decide +kernel, rfl⟩
theorem d_X2_readRow_36 : gd cX2_readRow 36 (.istore_n 2) 1 37 := ⟨by decide +kernel, rfl⟩
theorem d_X2_readRow_37 : gd cX2_readRow 37 (.iconst 1) 1 38 := ⟨by decide +kernel, rfl⟩
theorem d_X2_readRow_38 : gd cX2_readRow 38 (.istore_n 3) 1 39 := ⟨by decide +kernel, rfl⟩
theorem d_X2_readRow_39 : gd cX2_readRow 39 (.iconst 0) 1 40 := ⟨by decide +kernel, rfl⟩
theorem d_X2_readRow_40 : gd cX2_readRow 40 (.istore 4) 2 42 := ⟨by decide +kernel, rfl⟩
theorem d_X2_readRow_42 : gd cX2_readRow 42 (.iload 4) 2 44 := ⟨by decide +kernel, rfl⟩
theorem d_X2_readRow_44 : gd cX2_readRow 44 (.iconst 5) 1 45 := ⟨by decide +kernel, rfl⟩
theorem d_X2_readRow_45 : gd cX2_readRow 45 (.if_icmp .gt 79) 3 48 := ⟨by decide +kernel, rfl⟩
theorem d_X2_readRow_48 : gd cX2_readRow 48 (.iload_n 3) 1 49 := ⟨by decide +kernel, rfl⟩
theorem d_X2_readRow_49 : gd cX2_readRow 49 (.ifCond .eq 75) 3 52 := ⟨by decide +kernel, rfl⟩
theorem d_X2_readRow_52 : gd cX2_readRow 52 (.aload_n 0) 1 53 := ⟨by decide +kernel, rfl⟩
theorem d_X2_readRow_53 : gd cX2_readRow 53 (.aload_n 0) 1 54 := ⟨by decide +kernel, rfl⟩
theorem d_X2_readRow_54 : gd cX2_readRow 54 (.invokevirtual 45) 3 57 := ⟨by decide +kernel, rfl⟩
theorem d_X2_readRow_57 : gd cX2_readRow 57 (.invokevirtual 48) 3 60 := ⟨by decide +kernel, rfl⟩
theorem d_X2_readRow_60 : gd cX2_readRow 60 (.istore 5) 2 62 := ⟨by decide +kernel, rfl⟩
theorem d_X2_readRow_62 : gd cX2_readRow 62 (.iload 5) 2 64 := ⟨by decide +kernel, rfl⟩
theorem d_X2_readRow_64 : gd cX2_readRow 64 (.iconst (-1)) 1 65 := ⟨by decide +kernel, rfl⟩
theorem d_X2_readRow_65 : gd cX2_readRow 65 (.if_icmp .eq 13) 3 68 := ⟨by decide +kernel, rfl⟩
theorem d_X2_readRow_68 : gd cX2_readRow 68 (.iload_n 2) 1 69 := ⟨by decide +kernel, rfl⟩
theorem d_X2_readRow_69 : gd cX2_readRow 69 (.iload 5) 2 71 := ⟨by decide +kernel, rfl⟩
theorem d_X2_readRow_71 : gd cX2_readRow 71 .ishr 1 72 := ⟨by decide +kernel, rfl⟩
theorem d_X2_readRow_72 : gd cX2_readRow 72 (.iconst 1) 1 73 := ⟨by decide +kernel, rfl⟩
theorem d_X2_readRow_73 : gd cX2_readRow 73 .iand 1 74 := ⟨by decide +kernel, rfl⟩
theorem d_X2_readRow_74 : gd cX2_readRow 74 (.iconst 1) 1 75 := ⟨by decide +kernel, rfl⟩
theorem d_X2_readRow_75 : gd cX2_readRow 75 (.if_icmp .ne 12) 3 78 := ⟨by decide +kernel, rfl⟩
theorem d_X2_readRow_78 : gd cX2_readRow 78 (.aload_n 0) 1 79 := ⟨by decide +kernel, rfl⟩
theorem d_X2_readRow_79 : gd cX2_readRow 79 (.aload_n 0) 1 80 := ⟨by decide +kernel, rfl⟩
theorem d_X2_readRow_80 : gd cX2_readRow 80 (.getfield 52) 3 83 := ⟨by decide +kernel, rfl⟩
theorem d_X2_readRow_83 : gd cX2_readRow 83 (.invokevirtual 55) 3 86 := ⟨by decide +kernel, rfl⟩
theorem d_X2_readRow_86 : gd cX2_readRow 86 .return_ 1 87 := ⟨by decide +kernel, rfl⟩
theorem d_X2_readRow_87 : gd cX2_readRow 87 (.iload_n 2) 1 88 := ⟨by decide +kernel, rfl⟩
theorem d_X2_readRow_88 : gd cX2_readRow 88 (.iconst 1) 1 89 := ⟨by decide +kernel, rfl⟩
theorem d_X2_readRow_89 : gd cX2_readRow 89 (.iload 5) 2 91 := ⟨by decide +kernel, rfl⟩
theorem d_X2_readRow_91 : gd cX2_readRow 91 .ishl 1 92 := ⟨by decide +kernel, rfl⟩
theorem d_X2_readRow_92 : gd cX2_readRow 92 .ior 1 93 := ⟨by decide +kernel, rfl⟩
theorem d_X2_readRow_93 : gd cX2_readRow 93 (.istore_n 2) 1 94 := ⟨by decide +kernel, rfl⟩
theorem d_X2_readRow_94 : gd cX2_readRow 94 (.aload_n 0) 1 95 := ⟨by decide +kernel, rfl⟩
theorem d_X2_readRow_95 : gd cX2_readRow 95 .dup 1 96 := ⟨by decide +kernel, rfl⟩
theorem d_X2_readRow_96 : gd cX2_readRow 96 (.getfield 52) 3 99 := ⟨by decide +kernel, rfl⟩
theorem d_X2_readRow_99 : gd cX2_readRow 99 (.iconst 1) 1 100 := ⟨by decide +kernel, rfl⟩
theorem d_X2_readRow_100 : gd cX2_readRow 100 .iadd 1 101 := ⟨by decide +kernel, rfl⟩
theorem d_X2_readRow_101 : gd cX2_readRow 101 (.putfield 52) 3 104 := ⟨by decide +kernel, rfl⟩
theorem d_X2_readRow_104 : gd cX2_readRow 104 (.aload_n 0) 1 105 := ⟨by decide +kernel, rfl⟩
theorem d_X2_readRow_105 : gd cX2_readRow 105 (.iload_n 1) 1 106 := ⟨by decide +kernel, rfl⟩
theorem d_X2_readRow_106 : gd cX2_readRow 106 (.iload 5) 2 108 := ⟨by decide +kernel, rfl⟩
theorem d_X2_readRow_108 : gd cX2_readRow 108 (.invokevirtual 58) 3 111 := ⟨by decide +kernel, rfl⟩
theorem d_X2_readRow_111 : gd cX2_readRow 111 (.aload_n 0) 1 112 := ⟨by decide +kernel, rfl⟩
theorem d_X2_readRow_112 : gd cX2_readRow 112 (.bipush 44) 2 114 := ⟨by decide +kernel, rfl⟩
theorem d_X2_readRow_114 : gd cX2_readRow 114 (.invokevirtual 34) 3 117 := ⟨by decide +kernel, rfl⟩
theorem d_X2_readRow_117 : gd cX2_readRow 117 (.istore_n 3) 1 118 := ⟨by decide +kernel, rfl⟩
theorem d_X2_readRow_118 : gd cX2_readRow 118 (.iinc 4 1) 3 121 := ⟨by decide +kernel, rfl⟩
theorem d_X2_readRow_121 : gd cX2_readRow 121 (.goto (-79)) 3 124 := ⟨by decide +kernel, rfl⟩
theorem d_X2_readRow_124 : gd cX2_readRow 124 .return_ 1 125 := ⟨by decide +kernel, rfl⟩
def B_X2_readRow_78   (μ : gs_M) : Option (gs_M) :=
  bd0 (D_X4_failAt 3 (gI μ 3 1) μ) (fun u2 => some u2)
def Bo_X2_readRow_42 (q42 : Int32 → Int32 → Int32 → Int32 → gs_M → Option (gs_M)) (x1 : Int32) (x2 : Int32) (x3 : Int32) (x4 : Int32) (μ : gs_M) : Option (gs_M) :=
  if (5 : Int32) < x4 then (some μ) else (if x3 = 0 then (some μ) else (bd (D_X4_next 3 μ) (fun v5 u4 => bd (D_X2_itemOf v5 u4) (fun v8 u7 => if v8 = (-1 : Int32) then (B_X2_readRow_78 u7) else (if ((x2 >>> (v8 &&& 31)) &&& (1 : Int32)) = (1 : Int32) then (B_X2_readRow_78 u7) else (lt1 (x2 ||| ((1 : Int32) <<< (v8 &&& 31))) (fun v11 => lt1 (sI u7 3 1 ((gI u7 3 1) + (1 : Int32))) (fun u12 => bd0 (D_X2_readNumber x1 v8 u12) (fun u14 => bd (D_X4_accept 3 (44 : Int32) u14) (fun v17 u16 => q42 x1 v11 v17 (x4 + (1 : Int32)) u16))))))))))
def L_X2_readRow_42  : Nat → Int32 → Int32 → Int32 → Int32 → gs_M → Option (gs_M)
  | 0 => fun _ _ _ _ _ => none
  | n + 1 => fun x1 x2 x3 x4 μ => Bo_X2_readRow_42  (L_X2_readRow_42  n) x1 x2 x3 x4 μ
def Bo_X2_readRow_2 (q2 : Int32 → Int32 → gs_M → Option (gs_M)) (x1 : Int32) (x2 : Int32) (μ : gs_M) : Option (gs_M) :=
  if (5 : Int32) ≤ x2 then (L_X2_readRow_42 4096 x1 (0 : Int32) (1 : Int32) (0 : Int32) μ) else (ck (inb (((gI μ 3 5) * (5 : Int32)) + x2) 15) (ck (inb ((x1 * (5 : Int32)) + x2) 20) (lt1 (sI μ 4 (Int32.toNatClampNeg ((x1 * (5 : Int32)) + x2)) (cA 3 (Int32.toNatClampNeg (((gI μ 3 5) * (5 : Int32)) + x2)))) (fun u4 => q2 x1 (x2 + (1 : Int32)) u4))))
def L_X2_readRow_2  : Nat → Int32 → Int32 → gs_M → Option (gs_M)
  | 0 => fun _ _ _ => none
  | n + 1 => fun x1 x2 μ => Bo_X2_readRow_2  (L_X2_readRow_2  n) x1 x2 μ
def D_X2_readRow (x1 : Int32) (μ : gs_M) : Option (gs_M) :=
  L_X2_readRow_2 4096 x1 (0 : Int32) μ
section S_X2_readRow
variable {p : Program} {l : Launch} {e : Env} {R : Room} {s : State} {m : MethodId} {args : Array Value} {below : List Frame} {meth : Method} {c : Code} {ad : Nat → Nat} {g : va_G} {tyc : Nat → ClassId}
set_option maxRecDepth 20000 in
theorem T_X2_readRow_78  (hK : KC p R s m args meth c ad g tyc RX2 cX2_readRow 6 none 4) {μ2 : gs_M}    {μ : gs_M}  (hD : B_X2_readRow_78   μ = some μ2) : WJ p l e R s m args below meth c 0 0 (MQ below (gs_Q ad g tyc none μ2) args s 0 0 (gs_A ad)) ad g tyc 6 78 [.ref 3, gs_J, gs_J, gs_J, gs_J, gs_J] [] μ := by
  unfold B_X2_readRow_78 at hD
  refine r_aload_n hK d_X2_readRow_78 rfl rfl ?_
  refine r_aload_n hK d_X2_readRow_79 rfl rfl ?_
  refine r_getI hK d_X2_readRow_80 fl_RX2_52_2 rfl kd_3 ?_
  obtain ⟨u2, e1, hD⟩ := bd0_e hD
  refine r_callU (As := [.int (gI μ 3 1)]) (st := []) (stk2 := []) hK (C_X4_failAt_2 kd_3 e1) d_X2_readRow_83 mf_X4_failAt ml_RX2_55 sm_RX2_X4_failAt ⟨rfl, rfl⟩ im_X4_failAt rfl se_2_RX2_X4_failAt kd_3 rfl (Nat.le_of_ble_eq_true rfl) (by decide) ⟨Nat.zero_le _, Nat.zero_le _⟩ rfl rfl ?_
  cases hD
  exact r_vret hK d_X2_readRow_86
set_option maxRecDepth 20000 in
theorem To_X2_readRow_42  (hK : KC p R s m args meth c ad g tyc RX2 cX2_readRow 6 none 4) {μ2 : gs_M} {q42 : Int32 → Int32 → Int32 → Int32 → gs_M → Option (gs_M)} (hq42 : ∀ (x1 : Int32) (x2 : Int32) (x3 : Int32) (x4 : Int32) (μ : gs_M), q42 x1 x2 x3 x4 μ = some μ2 → WJ p l e R s m args below meth c 0 0 (MQ below (gs_Q ad g tyc none μ2) args s 0 0 (gs_A ad)) ad g tyc 6 42 [.ref 3, .int x1, .int x2, .int x3, .int x4, gs_J] [] μ) {x1 : Int32} {x2 : Int32} {x3 : Int32} {x4 : Int32} {μ : gs_M}  (hD : Bo_X2_readRow_42 q42 x1 x2 x3 x4 μ = some μ2) : WJ p l e R s m args below meth c 0 0 (MQ below (gs_Q ad g tyc none μ2) args s 0 0 (gs_A ad)) ad g tyc 6 42 [.ref 3, .int x1, .int x2, .int x3, .int x4, gs_J] [] μ := by
  unfold Bo_X2_readRow_42 at hD
  refine r_iload hK d_X2_readRow_42 rfl ?_
  refine r_iconst hK d_X2_readRow_44 ci_5 ?_
  refine r_icmp_gt (tgt := 124) hK d_X2_readRow_45 (by decide) (fun h1 => ?_) (fun h1 => ?_)
  · have hD := if_t hD h1
    cases hD
    exact r_vret hK d_X2_readRow_124
  · have hD := if_f hD h1
    refine r_iload_n hK d_X2_readRow_48 rfl rfl ?_
    refine r_if_eq (tgt := 124) hK d_X2_readRow_49 (by decide) (fun h2 => ?_) (fun h2 => ?_)
    · have hD := if_t hD h2
      cases hD
      exact r_vret hK d_X2_readRow_124
    · have hD := if_f hD h2
      refine r_aload_n hK d_X2_readRow_52 rfl rfl ?_
      refine r_aload_n hK d_X2_readRow_53 rfl rfl ?_
      obtain ⟨v5, u4, e3, hD⟩ := bd_e hD
      refine r_callU (As := []) (st := [.ref 3]) (stk2 := [.int v5, .ref 3]) hK (C_X4_next_2 kd_3 e3) d_X2_readRow_54 mf_X4_next ml_RX2_45 sm_RX2_X4_next ⟨rfl, rfl⟩ im_X4_next rfl se_2_RX2_X4_next kd_3 rfl (Nat.le_of_ble_eq_true rfl) (by decide) ⟨Nat.zero_le _, Nat.zero_le _⟩ rfl rfl ?_
      obtain ⟨v8, u7, e6, hD⟩ := bd_e hD
      refine r_callV (As := [.int v5]) (st := []) (stk2 := [.int v8]) hK (C_X2_itemOf  e6) d_X2_readRow_57 mf_X2_itemOf ml_RX2_48 im_X2_itemOf rfl se_2_RX2_X2_itemOf kd_3 rfl (Nat.le_of_ble_eq_true rfl) (by decide) ⟨Nat.zero_le _, Nat.zero_le _⟩ rfl rfl ?_
      refine r_istore hK d_X2_readRow_60 (by decide) (ls2 := [.ref 3, .int x1, .int x2, .int x3, .int x4, .int v8]) rfl ?_
      refine r_iload hK d_X2_readRow_62 rfl ?_
      refine r_iconst hK d_X2_readRow_64 ci_m1 ?_
      refine r_icmp_eq (tgt := 78) hK d_X2_readRow_65 (by decide) (fun h9 => ?_) (fun h9 => ?_)
      · have hD := if_t hD h9
        refine r_junk [true, false, false, false, false, false] (ls2 := [.ref 3, gs_J, gs_J, gs_J, gs_J, gs_J]) rfl ?_
        exact T_X2_readRow_78 hK   hD
      · have hD := if_f hD h9
        refine r_iload_n hK d_X2_readRow_68 rfl rfl ?_
        refine r_iload hK d_X2_readRow_69 rfl ?_
        refine r_ishr hK d_X2_readRow_71 ?_
        refine r_iconst hK d_X2_readRow_72 ci_1 ?_
        refine r_iand hK d_X2_readRow_73 ?_
        refine r_iconst hK d_X2_readRow_74 ci_1 ?_
        refine r_icmp_ne (tgt := 87) hK d_X2_readRow_75 (by decide) (fun h10 => ?_) (fun h10 => ?_)
        · have hD := if_f hD h10
          refine r_iload_n hK d_X2_readRow_87 rfl rfl ?_
          refine r_iconst hK d_X2_readRow_88 ci_1 ?_
          refine r_iload hK d_X2_readRow_89 rfl ?_
          refine r_ishl hK d_X2_readRow_91 ?_
          refine r_ior hK d_X2_readRow_92 ?_
          refine r_lti hD (fun v11 hD => ?_)
          refine r_istore_n hK d_X2_readRow_93 rfl (by decide) (ls2 := [.ref 3, .int x1, .int v11, .int x3, .int x4, .int v8]) rfl ?_
          refine r_aload_n hK d_X2_readRow_94 rfl rfl ?_
          refine r_dup hK d_X2_readRow_95 rfl ?_
          refine r_getI hK d_X2_readRow_96 fl_RX2_52_2 rfl kd_3 ?_
          refine r_iconst hK d_X2_readRow_99 ci_1 ?_
          refine r_iadd hK d_X2_readRow_100 ?_
          refine r_putI hK d_X2_readRow_101 fl_RX2_52_2 rfl rfl kd_3 ?_
          refine r_ltm hD (fun u12 hD => ?_)
          refine r_aload_n hK d_X2_readRow_104 rfl rfl ?_
          refine r_iload_n hK d_X2_readRow_105 rfl rfl ?_
          refine r_iload hK d_X2_readRow_106 rfl ?_
          obtain ⟨u14, e13, hD⟩ := bd0_e hD
          refine r_callV (As := [.int x1, .int v8]) (st := []) (stk2 := []) hK (C_X2_readNumber  e13) d_X2_readRow_108 mf_X2_readNumber ml_RX2_58 im_X2_readNumber rfl se_2_RX2_X2_readNumber kd_3 rfl (Nat.le_of_ble_eq_true rfl) (by decide) ⟨Nat.zero_le _, Nat.zero_le _⟩ rfl rfl ?_
          refine r_aload_n hK d_X2_readRow_111 rfl rfl ?_
          refine r_bipush hK d_X2_readRow_112 cb_44 ?_
          obtain ⟨v17, u16, e15, hD⟩ := bd_e hD
          refine r_callU (As := [.int (44 : Int32)]) (st := []) (stk2 := [.int v17]) hK (C_X4_accept_2 kd_3 e15) d_X2_readRow_114 mf_X4_accept ml_RX2_34 sm_RX2_X4_accept ⟨rfl, rfl⟩ im_X4_accept rfl se_2_RX2_X4_accept kd_3 rfl (Nat.le_of_ble_eq_true rfl) (by decide) ⟨Nat.zero_le _, Nat.zero_le _⟩ rfl rfl ?_
          refine r_istore_n hK d_X2_readRow_117 rfl (by decide) (ls2 := [.ref 3, .int x1, .int v11, .int v17, .int x4, .int v8]) rfl ?_
          refine r_iinc hK d_X2_readRow_118 rfl (v := x4 + (1 : Int32)) (by rw [ci_1]) (by decide) (ls2 := [.ref 3, .int x1, .int v11, .int v17, .int (x4 + (1 : Int32)), .int v8]) rfl ?_
          refine r_goto (tgt := 42) hK d_X2_readRow_121 (by decide) ?_
          refine r_junk [true, true, true, true, true, false] (ls2 := [.ref 3, .int x1, .int v11, .int v17, .int (x4 + (1 : Int32)), gs_J]) rfl ?_
          exact hq42 _ _ _ _ _  hD
        · have hD := if_t hD h10
          refine r_junk [true, false, false, false, false, false] (ls2 := [.ref 3, gs_J, gs_J, gs_J, gs_J, gs_J]) rfl ?_
          exact T_X2_readRow_78 hK   hD
set_option maxRecDepth 20000 in
theorem TL_X2_readRow_42  (hK : KC p R s m args meth c ad g tyc RX2 cX2_readRow 6 none 4) {μ2 : gs_M}   : ∀ (n : Nat) (x1 : Int32) (x2 : Int32) (x3 : Int32) (x4 : Int32) (μ : gs_M), L_X2_readRow_42  n x1 x2 x3 x4 μ = some μ2 → WJ p l e R s m args below meth c 0 0 (MQ below (gs_Q ad g tyc none μ2) args s 0 0 (gs_A ad)) ad g tyc 6 42 [.ref 3, .int x1, .int x2, .int x3, .int x4, gs_J] [] μ := by
  intro n
  induction n with
  | zero => intro x1 x2 x3 x4 μ  hD; cases hD
  | succ n ih => intro x1 x2 x3 x4 μ  hD; exact To_X2_readRow_42 hK  ih  hD
set_option maxRecDepth 20000 in
theorem To_X2_readRow_2  (hK : KC p R s m args meth c ad g tyc RX2 cX2_readRow 6 none 4) {μ2 : gs_M} {q2 : Int32 → Int32 → gs_M → Option (gs_M)} (hq2 : ∀ (x1 : Int32) (x2 : Int32) (μ : gs_M), q2 x1 x2 μ = some μ2 → WJ p l e R s m args below meth c 0 0 (MQ below (gs_Q ad g tyc none μ2) args s 0 0 (gs_A ad)) ad g tyc 6 2 [.ref 3, .int x1, .int x2, gs_J, gs_J, gs_J] [] μ) {x1 : Int32} {x2 : Int32} {μ : gs_M}  (hD : Bo_X2_readRow_2 q2 x1 x2 μ = some μ2) : WJ p l e R s m args below meth c 0 0 (MQ below (gs_Q ad g tyc none μ2) args s 0 0 (gs_A ad)) ad g tyc 6 2 [.ref 3, .int x1, .int x2, gs_J, gs_J, gs_J] [] μ := by
  unfold Bo_X2_readRow_2 at hD
  refine r_iload_n hK d_X2_readRow_2 rfl rfl ?_
  refine r_iconst hK d_X2_readRow_3 ci_5 ?_
  refine r_icmp_ge (tgt := 35) hK d_X2_readRow_4 (by decide) (fun h1 => ?_) (fun h1 => ?_)
  · have hD := if_t hD h1
    refine r_iconst hK d_X2_readRow_35 ci_0 ?_
    refine r_istore_n hK d_X2_readRow_36 rfl (by decide) (ls2 := [.ref 3, .int x1, .int (0 : Int32), gs_J, gs_J, gs_J]) rfl ?_
    refine r_iconst hK d_X2_readRow_37 ci_1 ?_
    refine r_istore_n hK d_X2_readRow_38 rfl (by decide) (ls2 := [.ref 3, .int x1, .int (0 : Int32), .int (1 : Int32), gs_J, gs_J]) rfl ?_
    refine r_iconst hK d_X2_readRow_39 ci_0 ?_
    refine r_istore hK d_X2_readRow_40 (by decide) (ls2 := [.ref 3, .int x1, .int (0 : Int32), .int (1 : Int32), .int (0 : Int32), gs_J]) rfl ?_
    exact TL_X2_readRow_42 hK  _ _ _ _ _ _  hD
  · have hD := if_f hD h1
    refine r_aload_n hK d_X2_readRow_7 rfl rfl ?_
    refine r_getR hK d_X2_readRow_8 fl_RX2_9_2 rfl kd_3 ?_
    refine r_ref (b := 4) R0_3_3 ?_
    refine r_iload_n hK d_X2_readRow_11 rfl rfl ?_
    refine r_iconst hK d_X2_readRow_12 ci_5 ?_
    refine r_imul hK d_X2_readRow_13 ?_
    refine r_iload_n hK d_X2_readRow_14 rfl rfl ?_
    refine r_iadd hK d_X2_readRow_15 ?_
    refine r_gets (k := 3) hK d_X2_readRow_16 fn_RX2_42 (fun _ _ q => q.2.2.2.1) ?_
    refine r_aload_n hK d_X2_readRow_19 rfl rfl ?_
    refine r_getI hK d_X2_readRow_20 fl_RX2_23_2 rfl kd_3 ?_
    refine r_iconst hK d_X2_readRow_23 ci_5 ?_
    refine r_imul hK d_X2_readRow_24 ?_
    refine r_iload_n hK d_X2_readRow_25 rfl rfl ?_
    refine r_iadd hK d_X2_readRow_26 ?_
    obtain ⟨h2, hD⟩ := ck_e hD
    refine r_ti (k := 3) hK d_X2_readRow_27 (fun _ _ q => q.2.2.2.1) (inb_in h2) ?_
    obtain ⟨h3, hD⟩ := ck_e hD
    refine r_iast hK d_X2_readRow_28 kd_4 ln_4 (inb_in h3) ?_
    refine r_ltm hD (fun u4 hD => ?_)
    refine r_iinc hK d_X2_readRow_29 rfl (v := x2 + (1 : Int32)) (by rw [ci_1]) (by decide) (ls2 := [.ref 3, .int x1, .int (x2 + (1 : Int32)), gs_J, gs_J, gs_J]) rfl ?_
    refine r_goto (tgt := 2) hK d_X2_readRow_32 (by decide) ?_
    exact hq2 _ _ _  hD
set_option maxRecDepth 20000 in
theorem TL_X2_readRow_2  (hK : KC p R s m args meth c ad g tyc RX2 cX2_readRow 6 none 4) {μ2 : gs_M}   : ∀ (n : Nat) (x1 : Int32) (x2 : Int32) (μ : gs_M), L_X2_readRow_2  n x1 x2 μ = some μ2 → WJ p l e R s m args below meth c 0 0 (MQ below (gs_Q ad g tyc none μ2) args s 0 0 (gs_A ad)) ad g tyc 6 2 [.ref 3, .int x1, .int x2, gs_J, gs_J, gs_J] [] μ := by
  intro n
  induction n with
  | zero => intro x1 x2 μ  hD; cases hD
  | succ n ih => intro x1 x2 μ  hD; exact To_X2_readRow_2 hK  ih  hD
set_option maxRecDepth 20000 in
theorem C_X2_readRow  {x1 : Int32} {μ : gs_M} {μ2 : gs_M}  (hD : D_X2_readRow x1 μ = some μ2) : CALL yX2_readRow cX2_readRow 6 none 4 [.ref 3, .int x1] μ none μ2 := by
  unfold D_X2_readRow at hD
  refine gs_enter mf_X2_readRow (Nat.le_of_ble_eq_true rfl) (ls := [.ref 3, .int x1, gs_J, gs_J, gs_J, gs_J]) rfl (fun p l e R s m args below meth c ad g tyc hK => ?_)
  have hK : KC p R s m args meth c ad g tyc RX2 cX2_readRow 6 none 4 := hK
  refine r_iconst hK d_X2_readRow_0 ci_0 ?_
  refine r_istore_n hK d_X2_readRow_1 rfl (by decide) (ls2 := [.ref 3, .int x1, .int (0 : Int32), gs_J, gs_J, gs_J]) rfl ?_
  exact TL_X2_readRow_2 hK  _ _ _ _  hD
end S_X2_readRow
theorem d_X2_readAll_0 : gd cX2_readAll 0 (.aload_n 0) 1 1 := ⟨by decide +kernel, rfl⟩
theorem d_X2_readAll_1 : gd cX2_readAll 1 (.invokevirtual 15) 3 4 := ⟨by decide +kernel, rfl⟩
theorem d_X2_readAll_4 : gd cX2_readAll 4 (.aload_n 0) 1 5 := ⟨by decide +kernel, rfl⟩
theorem d_X2_readAll_5 : gd cX2_readAll 5 (.iload_n 1) 1 6 := ⟨by decide +kernel, rfl⟩
theorem d_X2_readAll_6 : gd cX2_readAll 6 (.iconst 0) 1 7 := ⟨by decide +kernel, rfl⟩
theorem d_X2_readAll_7 : gd cX2_readAll 7 (.iconst 2) 1 8 := ⟨by decide +kernel, rfl⟩
theorem d_X2_readAll_8 : gd cX2_readAll 8 (.invokestatic 19) 3 11 := ⟨by decide +kernel, rfl⟩
theorem d_X2_readAll_11 : gd cX2_readAll 11 (.ifCond .eq 7) 3 14 := ⟨by decide +kernel, rfl⟩
theorem d_X2_readAll_14 : gd cX2_readAll 14 (.iload_n 1) 1 15 := ⟨by decide +kernel, rfl⟩
theorem d_X2_readAll_15 : gd cX2_readAll 15 (.goto 4) 3 18 := ⟨by decide +kernel, rfl⟩
theorem d_X2_readAll_18 : gd cX2_readAll 18 (.iconst 0) 1 19 := ⟨by decide +kernel, rfl⟩
theorem d_X2_readAll_19 : gd cX2_readAll 19 (.putfield 23) 3 22 := ⟨by decide +kernel, rfl⟩
theorem d_X2_readAll_22 : gd cX2_readAll 22 (.aload_n 0) 1 23 := ⟨by decide +kernel, rfl⟩
theorem d_X2_readAll_23 : gd cX2_readAll 23 (.iconst 0) 1 24 := ⟨by decide +kernel, rfl⟩
theorem d_X2_readAll_24 : gd cX2_readAll 24 (.putfield 27) 3 27 := ⟨by decide +kernel, rfl⟩
theorem d_X2_readAll_27 : gd cX2_readAll 27 (.aload_n 0) 1 28 := ⟨by decide +kernel, rfl⟩
theorem d_X2_readAll_28 : gd cX2_readAll 28 (.getfield 23) 3 31 := ⟨by decide +kernel, rfl⟩
theorem d_X2_readAll_31 : gd cX2_readAll 31 (.ifCond .ne 7) 3 34 := ⟨by decide +kernel, rfl⟩
theorem d_X2_readAll_34 : gd cX2_readAll 34 (.iconst 1) 1 35 := ⟨by decide +kernel, rfl⟩
theorem d_X2_readAll_35 : gd cX2_readAll 35 (.goto 4) 3 38 := ⟨by decide +kernel, rfl⟩
theorem d_X2_readAll_38 : gd cX2_readAll 38 (.iconst 4) 1 39 := ⟨by decide +kernel, rfl⟩
theorem d_X2_readAll_39 : gd cX2_readAll 39 (.istore_n 2) 1 40 := ⟨by decide +kernel, rfl⟩
theorem d_X2_readAll_40 : gd cX2_readAll 40 (.iconst 1) 1 41 := ⟨by decide +kernel, rfl⟩
theorem d_X2_readAll_41 : gd cX2_readAll 41 (.istore_n 3) 1 42 := ⟨by decide +kernel, rfl⟩
theorem d_X2_readAll_42 : gd cX2_readAll 42 (.iload_n 3) 1 43 := ⟨by decide +kernel, rfl⟩
theorem d_X2_readAll_43 : gd cX2_readAll 43 (.ifCond .eq 55) 3 46 := ⟨by decide +kernel, rfl⟩
theorem d_X2_readAll_46 : gd cX2_readAll 46 (.aload_n 0) 1 47 := ⟨by decide +kernel, rfl⟩
theorem d_X2_readAll_47 : gd cX2_readAll 47 (.getfield 27) 3 50 := ⟨by decide +kernel, rfl⟩
theorem d_X2_readAll_50 : gd cX2_readAll 50 (.iload_n 2) 1 51 := ⟨by decide +kernel, rfl⟩
theorem d_X2_readAll_51 : gd cX2_readAll 51 (.if_icmp .ge 47) 3 54 := ⟨by decide +kernel, rfl⟩
theorem d_X2_readAll_54 : gd cX2_readAll 54 (.aload_n 0) 1 55 := ⟨by decide +kernel, rfl⟩
theorem d_X2_readAll_55 : gd cX2_readAll 55 (.aload_n 0) 1 56 := ⟨by decide +kernel, rfl⟩
theorem d_X2_readAll_56 : gd cX2_readAll 56 (.getfield 27) 3 59 := ⟨by decide +kernel, rfl⟩
theorem d_X2_readAll_59 : gd cX2_readAll 59 (.invokevirtual 30) 3 62 := ⟨by decide +kernel, rfl⟩
theorem d_X2_readAll_62 : gd cX2_readAll 62 (.aload_n 0) 1 63 := ⟨by decide +kernel, rfl⟩
theorem d_X2_readAll_63 : gd cX2_readAll 63 .dup 1 64 := ⟨by decide +kernel, rfl⟩
theorem d_X2_readAll_64 : gd cX2_readAll 64 (.getfield 27) 3 67 := ⟨by decide +kernel, rfl⟩
theorem d_X2_readAll_67 : gd cX2_readAll 67 (.iconst 1) 1 68 := ⟨by decide +kernel, rfl⟩
theorem d_X2_readAll_68 : gd cX2_readAll 68 .iadd 1 69 := ⟨by decide +kernel, rfl⟩
theorem d_X2_readAll_69 : gd cX2_readAll 69 (.putfield 27) 3 72 := ⟨by decide +kernel, rfl⟩
theorem d_X2_readAll_72 : gd cX2_readAll 72 (.aload_n 0) 1 73 := ⟨by decide +kernel, rfl⟩
theorem d_X2_readAll_73 : gd cX2_readAll 73 (.getfield 27) 3 76 := ⟨by decide +kernel, rfl⟩
theorem d_X2_readAll_76 : gd cX2_readAll 76 (.iload_n 2) 1 77 := ⟨by decide +kernel, rfl⟩
theorem d_X2_readAll_77 : gd cX2_readAll 77 (.if_icmp .ge 16) 3 80 := ⟨by decide +kernel, rfl⟩
theorem d_X2_readAll_80 : gd cX2_readAll 80 (.aload_n 0) 1 81 := ⟨by decide +kernel, rfl⟩
theorem d_X2_readAll_81 : gd cX2_readAll 81 (.bipush 59) 2 83 := ⟨by decide +kernel, rfl⟩
theorem d_X2_readAll_83 : gd cX2_readAll 83 (.invokevirtual 34) 3 86 := ⟨by decide +kernel, rfl⟩
theorem d_X2_readAll_86 : gd cX2_readAll 86 (.ifCond .eq 7) 3 89 := ⟨by decide +kernel, rfl⟩
theorem d_X2_readAll_89 : gd cX2_readAll 89 (.iconst 1) 1 90 := ⟨by decide +kernel, rfl⟩
theorem d_X2_readAll_90 : gd cX2_readAll 90 (.goto 4) 3 93 := ⟨by decide +kernel, rfl⟩
theorem d_X2_readAll_93 : gd cX2_readAll 93 (.iconst 0) 1 94 := ⟨by decide +kernel, rfl⟩
theorem d_X2_readAll_94 : gd cX2_readAll 94 (.istore_n 3) 1 95 := ⟨by decide +kernel, rfl⟩
theorem d_X2_readAll_95 : gd cX2_readAll 95 (.goto (-53)) 3 98 := ⟨by decide +kernel, rfl⟩
theorem d_X2_readAll_98 : gd cX2_readAll 98 (.aload_n 0) 1 99 := ⟨by decide +kernel, rfl⟩
theorem d_X2_readAll_99 : gd cX2_readAll 99 (.invokevirtual 38) 3 102 := ⟨by decide +kernel, rfl⟩
theorem d_X2_readAll_102 : gd cX2_readAll 102 .ireturn 1 103 := ⟨by decide +kernel, rfl⟩
def B_X2_readAll_93 (q42 : Int32 → Int32 → gs_M → Option (Int32 × gs_M)) (x2 : Int32) (μ : gs_M) : Option (Int32 × gs_M) :=
  q42 x2 (0 : Int32) μ
def B_X2_readAll_98   (μ : gs_M) : Option (Int32 × gs_M) :=
  bd (D_X4_finish 3 μ) (fun v3 u2 => some (v3, u2))
def Bo_X2_readAll_42 (q42 : Int32 → Int32 → gs_M → Option (Int32 × gs_M)) (x2 : Int32) (x3 : Int32) (μ : gs_M) : Option (Int32 × gs_M) :=
  if x3 = 0 then (B_X2_readAll_98 μ) else (if x2 ≤ (gI μ 3 4) then (B_X2_readAll_98 μ) else (bd0 (D_X2_readRow (gI μ 3 4) μ) (fun u4 => lt1 (sI u4 3 4 ((gI u4 3 4) + (1 : Int32))) (fun u5 => if x2 ≤ (gI u5 3 4) then (B_X2_readAll_93 q42 x2 u5) else (bd (D_X4_accept 3 (59 : Int32) u5) (fun v9 u8 => if v9 = 0 then (B_X2_readAll_93 q42 x2 u8) else (q42 x2 (1 : Int32) u8)))))))
def L_X2_readAll_42  : Nat → Int32 → Int32 → gs_M → Option (Int32 × gs_M)
  | 0 => fun _ _ _ => none
  | n + 1 => fun x2 x3 μ => Bo_X2_readAll_42  (L_X2_readAll_42  n) x2 x3 μ
def B_X2_readAll_39  (xs0 : Int32) (μ : gs_M) : Option (Int32 × gs_M) :=
  L_X2_readAll_42 4096 xs0 (1 : Int32) μ
def B_X2_readAll_19  (xs1 : Int32) (μ : gs_M) : Option (Int32 × gs_M) :=
  lt1 (sI μ 3 5 xs1) (fun u1 => lt1 (sI u1 3 4 (0 : Int32)) (fun u2 => if (gI u2 3 5) = 0 then (B_X2_readAll_39 (1 : Int32) u2) else (B_X2_readAll_39 (4 : Int32) u2)))
def D_X2_readAll (x1 : Int32) (μ : gs_M) : Option (Int32 × gs_M) :=
  bd0 (D_X4_begin 3 μ) (fun u2 => bd (D_X11_within x1 (0 : Int32) (2 : Int32) u2) (fun v5 u4 => if v5 = 0 then (B_X2_readAll_19 (0 : Int32) u4) else (B_X2_readAll_19 x1 u4)))
section S_X2_readAll
variable {p : Program} {l : Launch} {e : Env} {R : Room} {s : State} {m : MethodId} {args : Array Value} {below : List Frame} {meth : Method} {c : Code} {ad : Nat → Nat} {g : va_G} {tyc : Nat → ClassId}
set_option maxRecDepth 20000 in
theorem T_X2_readAll_93  (hK : KC p R s m args meth c ad g tyc RX2 cX2_readAll 4 (some .int) 5) {r : Int32} {μ2 : gs_M} {q42 : Int32 → Int32 → gs_M → Option (Int32 × gs_M)} (hq42 : ∀ (x2 : Int32) (x3 : Int32) (μ : gs_M), q42 x2 x3 μ = some (r, μ2) → WJ p l e R s m args below meth c 0 0 (MQ below (gs_Q ad g tyc (some (.int r)) μ2) args s 0 0 (gs_A ad)) ad g tyc 4 42 [.ref 3, gs_J, .int x2, .int x3] [] μ) {x2 : Int32} {μ : gs_M}  (hD : B_X2_readAll_93 q42 x2 μ = some (r, μ2)) : WJ p l e R s m args below meth c 0 0 (MQ below (gs_Q ad g tyc (some (.int r)) μ2) args s 0 0 (gs_A ad)) ad g tyc 4 93 [.ref 3, gs_J, .int x2, gs_J] [] μ := by
  unfold B_X2_readAll_93 at hD
  refine r_iconst hK d_X2_readAll_93 ci_0 ?_
  refine r_istore_n hK d_X2_readAll_94 rfl (by decide) (ls2 := [.ref 3, gs_J, .int x2, .int (0 : Int32)]) rfl ?_
  refine r_goto (tgt := 42) hK d_X2_readAll_95 (by decide) ?_
  exact hq42 _ _ _  hD
set_option maxRecDepth 20000 in
theorem T_X2_readAll_98  (hK : KC p R s m args meth c ad g tyc RX2 cX2_readAll 4 (some .int) 5) {r : Int32} {μ2 : gs_M}    {μ : gs_M}  (hD : B_X2_readAll_98   μ = some (r, μ2)) : WJ p l e R s m args below meth c 0 0 (MQ below (gs_Q ad g tyc (some (.int r)) μ2) args s 0 0 (gs_A ad)) ad g tyc 4 98 [.ref 3, gs_J, gs_J, gs_J] [] μ := by
  unfold B_X2_readAll_98 at hD
  refine r_aload_n hK d_X2_readAll_98 rfl rfl ?_
  obtain ⟨v3, u2, e1, hD⟩ := bd_e hD
  refine r_callU (As := []) (st := []) (stk2 := [.int v3]) hK (C_X4_finish_2 kd_3 e1) d_X2_readAll_99 mf_X4_finish ml_RX2_38 sm_RX2_X4_finish ⟨rfl, rfl⟩ im_X4_finish rfl se_2_RX2_X4_finish kd_3 rfl (Nat.le_of_ble_eq_true rfl) (by decide) ⟨Nat.zero_le _, Nat.zero_le _⟩ rfl rfl ?_
  cases hD
  exact r_iret hK d_X2_readAll_102
set_option maxRecDepth 20000 in
theorem To_X2_readAll_42  (hK : KC p R s m args meth c ad g tyc RX2 cX2_readAll 4 (some .int) 5) {r : Int32} {μ2 : gs_M} {q42 : Int32 → Int32 → gs_M → Option (Int32 × gs_M)} (hq42 : ∀ (x2 : Int32) (x3 : Int32) (μ : gs_M), q42 x2 x3 μ = some (r, μ2) → WJ p l e R s m args below meth c 0 0 (MQ below (gs_Q ad g tyc (some (.int r)) μ2) args s 0 0 (gs_A ad)) ad g tyc 4 42 [.ref 3, gs_J, .int x2, .int x3] [] μ) {x2 : Int32} {x3 : Int32} {μ : gs_M}  (hD : Bo_X2_readAll_42 q42 x2 x3 μ = some (r, μ2)) : WJ p l e R s m args below meth c 0 0 (MQ below (gs_Q ad g tyc (some (.int r)) μ2) args s 0 0 (gs_A ad)) ad g tyc 4 42 [.ref 3, gs_J, .int x2, .int x3] [] μ := by
  unfold Bo_X2_readAll_42 at hD
  refine r_iload_n hK d_X2_readAll_42 rfl rfl ?_
  refine r_if_eq (tgt := 98) hK d_X2_readAll_43 (by decide) (fun h1 => ?_) (fun h1 => ?_)
  · have hD := if_t hD h1
    refine r_junk [true, false, false, false] (ls2 := [.ref 3, gs_J, gs_J, gs_J]) rfl ?_
    exact T_X2_readAll_98 hK   hD
  · have hD := if_f hD h1
    refine r_aload_n hK d_X2_readAll_46 rfl rfl ?_
    refine r_getI hK d_X2_readAll_47 fl_RX2_27_2 rfl kd_3 ?_
    refine r_iload_n hK d_X2_readAll_50 rfl rfl ?_
    refine r_icmp_ge (tgt := 98) hK d_X2_readAll_51 (by decide) (fun h2 => ?_) (fun h2 => ?_)
    · have hD := if_t hD h2
      refine r_junk [true, false, false, false] (ls2 := [.ref 3, gs_J, gs_J, gs_J]) rfl ?_
      exact T_X2_readAll_98 hK   hD
    · have hD := if_f hD h2
      refine r_aload_n hK d_X2_readAll_54 rfl rfl ?_
      refine r_aload_n hK d_X2_readAll_55 rfl rfl ?_
      refine r_getI hK d_X2_readAll_56 fl_RX2_27_2 rfl kd_3 ?_
      obtain ⟨u4, e3, hD⟩ := bd0_e hD
      refine r_callV (As := [.int (gI μ 3 4)]) (st := []) (stk2 := []) hK (C_X2_readRow  e3) d_X2_readAll_59 mf_X2_readRow ml_RX2_30 im_X2_readRow rfl se_2_RX2_X2_readRow kd_3 rfl (Nat.le_of_ble_eq_true rfl) (by decide) ⟨Nat.zero_le _, Nat.zero_le _⟩ rfl rfl ?_
      refine r_aload_n hK d_X2_readAll_62 rfl rfl ?_
      refine r_dup hK d_X2_readAll_63 rfl ?_
      refine r_getI hK d_X2_readAll_64 fl_RX2_27_2 rfl kd_3 ?_
      refine r_iconst hK d_X2_readAll_67 ci_1 ?_
      refine r_iadd hK d_X2_readAll_68 ?_
      refine r_putI hK d_X2_readAll_69 fl_RX2_27_2 rfl rfl kd_3 ?_
      refine r_ltm hD (fun u5 hD => ?_)
      refine r_aload_n hK d_X2_readAll_72 rfl rfl ?_
      refine r_getI hK d_X2_readAll_73 fl_RX2_27_2 rfl kd_3 ?_
      refine r_iload_n hK d_X2_readAll_76 rfl rfl ?_
      refine r_icmp_ge (tgt := 93) hK d_X2_readAll_77 (by decide) (fun h6 => ?_) (fun h6 => ?_)
      · have hD := if_t hD h6
        refine r_junk [true, false, true, false] (ls2 := [.ref 3, gs_J, .int x2, gs_J]) rfl ?_
        exact T_X2_readAll_93 hK hq42  hD
      · have hD := if_f hD h6
        refine r_aload_n hK d_X2_readAll_80 rfl rfl ?_
        refine r_bipush hK d_X2_readAll_81 cb_59 ?_
        obtain ⟨v9, u8, e7, hD⟩ := bd_e hD
        refine r_callU (As := [.int (59 : Int32)]) (st := []) (stk2 := [.int v9]) hK (C_X4_accept_2 kd_3 e7) d_X2_readAll_83 mf_X4_accept ml_RX2_34 sm_RX2_X4_accept ⟨rfl, rfl⟩ im_X4_accept rfl se_2_RX2_X4_accept kd_3 rfl (Nat.le_of_ble_eq_true rfl) (by decide) ⟨Nat.zero_le _, Nat.zero_le _⟩ rfl rfl ?_
        refine r_if_eq (tgt := 93) hK d_X2_readAll_86 (by decide) (fun h10 => ?_) (fun h10 => ?_)
        · have hD := if_t hD h10
          refine r_junk [true, false, true, false] (ls2 := [.ref 3, gs_J, .int x2, gs_J]) rfl ?_
          exact T_X2_readAll_93 hK hq42  hD
        · have hD := if_f hD h10
          refine r_iconst hK d_X2_readAll_89 ci_1 ?_
          refine r_goto (tgt := 94) hK d_X2_readAll_90 (by decide) ?_
          refine r_istore_n hK d_X2_readAll_94 rfl (by decide) (ls2 := [.ref 3, gs_J, .int x2, .int (1 : Int32)]) rfl ?_
          refine r_goto (tgt := 42) hK d_X2_readAll_95 (by decide) ?_
          exact hq42 _ _ _  hD
set_option maxRecDepth 20000 in
theorem TL_X2_readAll_42  (hK : KC p R s m args meth c ad g tyc RX2 cX2_readAll 4 (some .int) 5) {r : Int32} {μ2 : gs_M}   : ∀ (n : Nat) (x2 : Int32) (x3 : Int32) (μ : gs_M), L_X2_readAll_42  n x2 x3 μ = some (r, μ2) → WJ p l e R s m args below meth c 0 0 (MQ below (gs_Q ad g tyc (some (.int r)) μ2) args s 0 0 (gs_A ad)) ad g tyc 4 42 [.ref 3, gs_J, .int x2, .int x3] [] μ := by
  intro n
  induction n with
  | zero => intro x2 x3 μ  hD; cases hD
  | succ n ih => intro x2 x3 μ  hD; exact To_X2_readAll_42 hK  ih  hD
set_option maxRecDepth 20000 in
theorem T_X2_readAll_39  (hK : KC p R s m args meth c ad g tyc RX2 cX2_readAll 4 (some .int) 5) {r : Int32} {μ2 : gs_M}   {xs0 : Int32} {μ : gs_M}  (hD : B_X2_readAll_39  xs0 μ = some (r, μ2)) : WJ p l e R s m args below meth c 0 0 (MQ below (gs_Q ad g tyc (some (.int r)) μ2) args s 0 0 (gs_A ad)) ad g tyc 4 39 [.ref 3, gs_J, gs_J, gs_J] [.int xs0] μ := by
  unfold B_X2_readAll_39 at hD
  refine r_istore_n hK d_X2_readAll_39 rfl (by decide) (ls2 := [.ref 3, gs_J, .int xs0, gs_J]) rfl ?_
  refine r_iconst hK d_X2_readAll_40 ci_1 ?_
  refine r_istore_n hK d_X2_readAll_41 rfl (by decide) (ls2 := [.ref 3, gs_J, .int xs0, .int (1 : Int32)]) rfl ?_
  exact TL_X2_readAll_42 hK  _ _ _ _  hD
set_option maxRecDepth 20000 in
theorem T_X2_readAll_19  (hK : KC p R s m args meth c ad g tyc RX2 cX2_readAll 4 (some .int) 5) {r : Int32} {μ2 : gs_M}   {xs1 : Int32} {μ : gs_M}  (hD : B_X2_readAll_19  xs1 μ = some (r, μ2)) : WJ p l e R s m args below meth c 0 0 (MQ below (gs_Q ad g tyc (some (.int r)) μ2) args s 0 0 (gs_A ad)) ad g tyc 4 19 [.ref 3, gs_J, gs_J, gs_J] [.int xs1, .ref 3] μ := by
  unfold B_X2_readAll_19 at hD
  refine r_putI hK d_X2_readAll_19 fl_RX2_23_2 rfl rfl kd_3 ?_
  refine r_ltm hD (fun u1 hD => ?_)
  refine r_aload_n hK d_X2_readAll_22 rfl rfl ?_
  refine r_iconst hK d_X2_readAll_23 ci_0 ?_
  refine r_putI hK d_X2_readAll_24 fl_RX2_27_2 rfl rfl kd_3 ?_
  refine r_ltm hD (fun u2 hD => ?_)
  refine r_aload_n hK d_X2_readAll_27 rfl rfl ?_
  refine r_getI hK d_X2_readAll_28 fl_RX2_23_2 rfl kd_3 ?_
  refine r_if_ne (tgt := 38) hK d_X2_readAll_31 (by decide) (fun h3 => ?_) (fun h3 => ?_)
  · have hD := if_f hD h3
    refine r_iconst hK d_X2_readAll_38 ci_4 ?_
    exact T_X2_readAll_39 hK   hD
  · have hD := if_t hD h3
    refine r_iconst hK d_X2_readAll_34 ci_1 ?_
    refine r_goto (tgt := 39) hK d_X2_readAll_35 (by decide) ?_
    exact T_X2_readAll_39 hK   hD
set_option maxRecDepth 20000 in
theorem C_X2_readAll  {x1 : Int32} {μ : gs_M} {r : Int32} {μ2 : gs_M}  (hD : D_X2_readAll x1 μ = some (r, μ2)) : CALL yX2_readAll cX2_readAll 4 (some .int) 5 [.ref 3, .int x1] μ (some (.int r)) μ2 := by
  unfold D_X2_readAll at hD
  refine gs_enter mf_X2_readAll (Nat.le_of_ble_eq_true rfl) (ls := [.ref 3, .int x1, gs_J, gs_J]) rfl (fun p l e R s m args below meth c ad g tyc hK => ?_)
  have hK : KC p R s m args meth c ad g tyc RX2 cX2_readAll 4 (some .int) 5 := hK
  refine r_aload_n hK d_X2_readAll_0 rfl rfl ?_
  obtain ⟨u2, e1, hD⟩ := bd0_e hD
  refine r_callU (As := []) (st := []) (stk2 := []) hK (C_X4_begin_2 kd_3 e1) d_X2_readAll_1 mf_X4_begin ml_RX2_15 sm_RX2_X4_begin ⟨rfl, rfl⟩ im_X4_begin rfl se_2_RX2_X4_begin kd_3 rfl (Nat.le_of_ble_eq_true rfl) (by decide) ⟨Nat.zero_le _, Nat.zero_le _⟩ rfl rfl ?_
  refine r_aload_n hK d_X2_readAll_4 rfl rfl ?_
  refine r_iload_n hK d_X2_readAll_5 rfl rfl ?_
  refine r_iconst hK d_X2_readAll_6 ci_0 ?_
  refine r_iconst hK d_X2_readAll_7 ci_2 ?_
  obtain ⟨v5, u4, e3, hD⟩ := bd_e hD
  refine r_callSN (As := [.int x1, .int (0 : Int32), .int (2 : Int32)]) (st := [.ref 3]) (stk2 := [.int v5, .ref 3]) hK (C_X11_within  e3) d_X2_readAll_8 mf_X11_within mn_RX2_19 ss_X11_within rfl (Nat.le_of_ble_eq_true rfl) (by decide) ⟨Nat.zero_le _, Nat.zero_le _⟩ rfl rfl ?_
  refine r_if_eq (tgt := 18) hK d_X2_readAll_11 (by decide) (fun h6 => ?_) (fun h6 => ?_)
  · have hD := if_t hD h6
    refine r_iconst hK d_X2_readAll_18 ci_0 ?_
    refine r_junk [true, false, false, false] (ls2 := [.ref 3, gs_J, gs_J, gs_J]) rfl ?_
    exact T_X2_readAll_19 hK   hD
  · have hD := if_f hD h6
    refine r_iload_n hK d_X2_readAll_14 rfl rfl ?_
    refine r_goto (tgt := 19) hK d_X2_readAll_15 (by decide) ?_
    refine r_junk [true, false, false, false] (ls2 := [.ref 3, gs_J, gs_J, gs_J]) rfl ?_
    exact T_X2_readAll_19 hK   hD
end S_X2_readAll
