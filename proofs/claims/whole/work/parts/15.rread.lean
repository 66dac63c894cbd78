theorem fl_RX5_19_4 : gs_FL RX5 19 "GrainShift$RuleReading" 4 4 (RX5, TX5, 5) := ⟨rfl, by decide, gs_t 88 (by decide +kernel) (by decide +kernel), Or.inl rfl⟩
theorem fl_RX5_9_4 : gs_FL RX5 9 "GrainShift$RuleReading" 4 3 (RX5, TX5, 5) := ⟨rfl, by decide, gs_t 86 (by decide +kernel) (by decide +kernel), Or.inl rfl⟩
theorem mf_X5_put : gs_MF yX5_put cX5_put 2 none 1 := ⟨gs_t 450 (by decide +kernel) (by decide +kernel), gs_t 5 (by decide +kernel) (by decide +kernel), by decide, by decide, by decide +kernel, by decide, by decide⟩
theorem se_4_RX5_X4_isSound : Cond.selects RX5 ⟨"GrainShift$RuleReading", "isSound", "()Z"⟩ yX4_isSound ∈ gs_tbl := gs_t 440 (by decide +kernel) (by decide +kernel)
theorem sm_RX5_X4_isSound : Cond.sameMethod RX5 RX4 "isSound" "()Z" ∈ gs_tbl := gs_t 438 (by decide +kernel) (by decide +kernel)
theorem ml_RX5_65 : Cond.methodLink RX5 65 ⟨"GrainShift$RuleReading", "isSound", "()Z"⟩ ∈ gs_tbl := gs_t 437 (by decide +kernel) (by decide +kernel)
theorem fl_RX5_69_4 : gs_FL RX5 69 "GrainShift$RuleReading" 4 1 (RX5, TX5, 5) := ⟨rfl, by decide, gs_t 64 (by decide +kernel) (by decide +kernel), Or.inr (gs_t 65 (by decide +kernel) (by decide +kernel))⟩
theorem se_4_RX5_X4_failAt : Cond.selects RX5 ⟨"GrainShift$RuleReading", "failAt", "(I)V"⟩ yX4_failAt ∈ gs_tbl := gs_t 446 (by decide +kernel) (by decide +kernel)
theorem sm_RX5_X4_failAt : Cond.sameMethod RX5 RX4 "failAt" "(I)V" ∈ gs_tbl := gs_t 444 (by decide +kernel) (by decide +kernel)
theorem ml_RX5_72 : Cond.methodLink RX5 72 ⟨"GrainShift$RuleReading", "failAt", "(I)V"⟩ ∈ gs_tbl := gs_t 443 (by decide +kernel) (by decide +kernel)
theorem mf_X5_goesDeeper : gs_MF yX5_goesDeeper cX5_goesDeeper 2 (some .boolean) 1 := ⟨gs_t 436 (by decide +kernel) (by decide +kernel), gs_t 5 (by decide +kernel) (by decide +kernel), by decide, by decide, by decide +kernel, by decide, by decide⟩
theorem mf_X5_isComparison : gs_MF yX5_isComparison cX5_isComparison 1 (some .boolean) 1 := ⟨gs_t 492 (by decide +kernel) (by decide +kernel), gs_t 5 (by decide +kernel) (by decide +kernel), by decide, by decide, by decide +kernel, by decide, by decide⟩
theorem se_4_RX5_X4_next : Cond.selects RX5 ⟨"GrainShift$RuleReading", "next", "()I"⟩ yX4_next ∈ gs_tbl := gs_t 428 (by decide +kernel) (by decide +kernel)
theorem sm_RX5_X4_next : Cond.sameMethod RX5 RX4 "next" "()I" ∈ gs_tbl := gs_t 426 (by decide +kernel) (by decide +kernel)
theorem ml_RX5_38 : Cond.methodLink RX5 38 ⟨"GrainShift$RuleReading", "next", "()I"⟩ ∈ gs_tbl := gs_t 425 (by decide +kernel) (by decide +kernel)
theorem se_4_RX5_X5_readSum : Cond.selects RX5 yX5_readSum yX5_readSum ∈ gs_tbl := gs_s 6 (by decide +kernel) (by decide +kernel)
theorem mf_X5_readSum : gs_MF yX5_readSum cX5_readSum 4 none 1 := ⟨gs_t 466 (by decide +kernel) (by decide +kernel), gs_t 5 (by decide +kernel) (by decide +kernel), by decide, by decide, by decide +kernel, by decide, by decide⟩
theorem ml_RX5_47 : Cond.methodLink RX5 47 yX5_readSum ∈ gs_tbl := gs_t 463 (by decide +kernel) (by decide +kernel)
theorem im_X5_readSum : Cond.instanceMethod yX5_readSum ∈ gs_tbl := gs_t 465 (by decide +kernel) (by decide +kernel)
theorem se_4_RX5_X5_readComparison : Cond.selects RX5 yX5_readComparison yX5_readComparison ∈ gs_tbl := gs_s 9 (by decide +kernel) (by decide +kernel)
theorem mf_X5_readComparison : gs_MF yX5_readComparison cX5_readComparison 3 none 1 := ⟨gs_t 489 (by decide +kernel) (by decide +kernel), gs_t 5 (by decide +kernel) (by decide +kernel), by decide, by decide, by decide +kernel, by decide, by decide⟩
theorem ml_RX5_56 : Cond.methodLink RX5 56 yX5_readComparison ∈ gs_tbl := gs_t 486 (by decide +kernel) (by decide +kernel)
theorem im_X5_readComparison : Cond.instanceMethod yX5_readComparison ∈ gs_tbl := gs_t 488 (by decide +kernel) (by decide +kernel)
theorem se_4_RX5_X5_goesDeeper : Cond.selects RX5 yX5_goesDeeper yX5_goesDeeper ∈ gs_tbl := gs_s 2 (by decide +kernel) (by decide +kernel)
theorem ml_RX5_62 : Cond.methodLink RX5 62 yX5_goesDeeper ∈ gs_tbl := gs_t 433 (by decide +kernel) (by decide +kernel)
theorem im_X5_goesDeeper : Cond.instanceMethod yX5_goesDeeper ∈ gs_tbl := gs_t 435 (by decide +kernel) (by decide +kernel)
theorem se_4_RX5_X5_readUnit : Cond.selects RX5 yX5_readUnit yX5_readUnit ∈ gs_tbl := gs_s 1 (by decide +kernel) (by decide +kernel)
theorem mf_X5_readUnit : gs_MF yX5_readUnit cX5_readUnit 3 none 1 := ⟨gs_t 432 (by decide +kernel) (by decide +kernel), gs_t 5 (by decide +kernel) (by decide +kernel), by decide, by decide, by decide +kernel, by decide, by decide⟩
theorem ml_RX5_41 : Cond.methodLink RX5 41 yX5_readUnit ∈ gs_tbl := gs_t 429 (by decide +kernel) (by decide +kernel)
theorem im_X5_readUnit : Cond.instanceMethod yX5_readUnit ∈ gs_tbl := gs_t 431 (by decide +kernel) (by decide +kernel)
theorem se_4_RX5_X5_readConditionOn : Cond.selects RX5 yX5_readConditionOn yX5_readConditionOn ∈ gs_tbl := gs_s 4 (by decide +kernel) (by decide +kernel)
theorem mf_X5_readConditionOn : gs_MF yX5_readConditionOn cX5_readConditionOn 3 none 1 := ⟨gs_t 454 (by decide +kernel) (by decide +kernel), gs_t 5 (by decide +kernel) (by decide +kernel), by decide, by decide, by decide +kernel, by decide, by decide⟩
theorem ml_RX5_44 : Cond.methodLink RX5 44 yX5_readConditionOn ∈ gs_tbl := gs_t 451 (by decide +kernel) (by decide +kernel)
theorem im_X5_readConditionOn : Cond.instanceMethod yX5_readConditionOn ∈ gs_tbl := gs_t 453 (by decide +kernel) (by decide +kernel)
theorem se_4_RX5_X4_expect : Cond.selects RX5 ⟨"GrainShift$RuleReading", "expect", "(I)V"⟩ yX4_expect ∈ gs_tbl := gs_t 400 (by decide +kernel) (by decide +kernel)
theorem sm_RX5_X4_expect : Cond.sameMethod RX5 RX4 "expect" "(I)V" ∈ gs_tbl := gs_t 398 (by decide +kernel) (by decide +kernel)
theorem ml_RX5_34 : Cond.methodLink RX5 34 ⟨"GrainShift$RuleReading", "expect", "(I)V"⟩ ∈ gs_tbl := gs_t 397 (by decide +kernel) (by decide +kernel)
theorem im_X4_expect : Cond.instanceMethod yX4_expect ∈ gs_tbl := gs_t 401 (by decide +kernel) (by decide +kernel)
theorem se_4_RX5_X5_put : Cond.selects RX5 yX5_put yX5_put ∈ gs_tbl := gs_s 3 (by decide +kernel) (by decide +kernel)
theorem ml_RX5_53 : Cond.methodLink RX5 53 yX5_put ∈ gs_tbl := gs_t 447 (by decide +kernel) (by decide +kernel)
theorem im_X5_put : Cond.instanceMethod yX5_put ∈ gs_tbl := gs_t 449 (by decide +kernel) (by decide +kernel)
theorem se_4_RX5_X5_readTruthOn : Cond.selects RX5 yX5_readTruthOn yX5_readTruthOn ∈ gs_tbl := gs_s 5 (by decide +kernel) (by decide +kernel)
theorem mf_X5_readTruthOn : gs_MF yX5_readTruthOn cX5_readTruthOn 3 none 1 := ⟨gs_t 458 (by decide +kernel) (by decide +kernel), gs_t 5 (by decide +kernel) (by decide +kernel), by decide, by decide, by decide +kernel, by decide, by decide⟩
theorem ml_RX5_59 : Cond.methodLink RX5 59 yX5_readTruthOn ∈ gs_tbl := gs_t 455 (by decide +kernel) (by decide +kernel)
theorem im_X5_readTruthOn : Cond.instanceMethod yX5_readTruthOn ∈ gs_tbl := gs_t 457 (by decide +kernel) (by decide +kernel)
theorem se_4_RX5_X4_accept : Cond.selects RX5 ⟨"GrainShift$RuleReading", "accept", "(I)Z"⟩ yX4_accept ∈ gs_tbl := gs_t 462 (by decide +kernel) (by decide +kernel)
theorem sm_RX5_X4_accept : Cond.sameMethod RX5 RX4 "accept" "(I)Z" ∈ gs_tbl := gs_t 460 (by decide +kernel) (by decide +kernel)
theorem ml_RX5_26 : Cond.methodLink RX5 26 ⟨"GrainShift$RuleReading", "accept", "(I)Z"⟩ ∈ gs_tbl := gs_t 459 (by decide +kernel) (by decide +kernel)
theorem ml_RX5_50 : Cond.methodLink RX5 50 yX5_isComparison ∈ gs_tbl := gs_t 490 (by decide +kernel) (by decide +kernel)
theorem ss_X5_isComparison : Cond.static yX5_isComparison ∈ gs_tbl := gs_t 491 (by decide +kernel) (by decide +kernel)
theorem se_4_RX5_X5_readTerm : Cond.selects RX5 yX5_readTerm yX5_readTerm ∈ gs_tbl := gs_s 7 (by decide +kernel) (by decide +kernel)
theorem mf_X5_readTerm : gs_MF yX5_readTerm cX5_readTerm 4 none 1 := ⟨gs_t 470 (by decide +kernel) (by decide +kernel), gs_t 5 (by decide +kernel) (by decide +kernel), by decide, by decide, by decide +kernel, by decide, by decide⟩
theorem ml_RX5_75 : Cond.methodLink RX5 75 yX5_readTerm ∈ gs_tbl := gs_t 467 (by decide +kernel) (by decide +kernel)
theorem im_X5_readTerm : Cond.instanceMethod yX5_readTerm ∈ gs_tbl := gs_t 469 (by decide +kernel) (by decide +kernel)
theorem se_4_RX5_X5_readAtom : Cond.selects RX5 yX5_readAtom yX5_readAtom ∈ gs_tbl := gs_s 8 (by decide +kernel) (by decide +kernel)
theorem mf_X5_readAtom : gs_MF yX5_readAtom cX5_readAtom 3 none 1 := ⟨gs_t 474 (by decide +kernel) (by decide +kernel), gs_t 5 (by decide +kernel) (by decide +kernel), by decide, by decide, by decide +kernel, by decide, by decide⟩
theorem ml_RX5_78 : Cond.methodLink RX5 78 yX5_readAtom ∈ gs_tbl := gs_t 471 (by decide +kernel) (by decide +kernel)
theorem im_X5_readAtom : Cond.instanceMethod yX5_readAtom ∈ gs_tbl := gs_t 473 (by decide +kernel) (by decide +kernel)
theorem mn_RX5_81 : Cond.methodLinkNest RX5 81 yX11_within "GrainShift" ∈ gs_nest := gs_n 475 (by decide +kernel) (by decide +kernel)
theorem ml_RX5_89 : Cond.methodLink RX5 89 yX6_letterOf ∈ gs_tbl := gs_t 483 (by decide +kernel) (by decide +kernel)
theorem se_4_RX5_X4_digits : Cond.selects RX5 ⟨"GrainShift$RuleReading", "digits", "(I)I"⟩ yX4_digits ∈ gs_tbl := gs_t 479 (by decide +kernel) (by decide +kernel)
theorem sm_RX5_X4_digits : Cond.sameMethod RX5 RX4 "digits" "(I)I" ∈ gs_tbl := gs_t 477 (by decide +kernel) (by decide +kernel)
theorem ml_RX5_85 : Cond.methodLink RX5 85 ⟨"GrainShift$RuleReading", "digits", "(I)I"⟩ ∈ gs_tbl := gs_t 476 (by decide +kernel) (by decide +kernel)
theorem mf_X5_readClause : gs_MF yX5_readClause cX5_readClause 2 none 0 := ⟨gs_t 396 (by decide +kernel) (by decide +kernel), gs_t 5 (by decide +kernel) (by decide +kernel), by decide, by decide, by decide +kernel, by decide, by decide⟩
theorem se_4_RX5_X4_begin : Cond.selects RX5 ⟨"GrainShift$RuleReading", "begin", "()V"⟩ yX4_begin ∈ gs_tbl := gs_t 390 (by decide +kernel) (by decide +kernel)
theorem sm_RX5_X4_begin : Cond.sameMethod RX5 RX4 "begin" "()V" ∈ gs_tbl := gs_t 388 (by decide +kernel) (by decide +kernel)
theorem ml_RX5_15 : Cond.methodLink RX5 15 ⟨"GrainShift$RuleReading", "begin", "()V"⟩ ∈ gs_tbl := gs_t 387 (by decide +kernel) (by decide +kernel)
theorem se_4_RX5_X5_readClause : Cond.selects RX5 yX5_readClause yX5_readClause ∈ gs_tbl := gs_s 0 (by decide +kernel) (by decide +kernel)
theorem ml_RX5_23 : Cond.methodLink RX5 23 yX5_readClause ∈ gs_tbl := gs_t 393 (by decide +kernel) (by decide +kernel)
theorem im_X5_readClause : Cond.instanceMethod yX5_readClause ∈ gs_tbl := gs_t 395 (by decide +kernel) (by decide +kernel)
theorem se_4_RX5_X4_finish : Cond.selects RX5 ⟨"GrainShift$RuleReading", "finish", "()I"⟩ yX4_finish ∈ gs_tbl := gs_t 496 (by decide +kernel) (by decide +kernel)
theorem sm_RX5_X4_finish : Cond.sameMethod RX5 RX4 "finish" "()I" ∈ gs_tbl := gs_t 494 (by decide +kernel) (by decide +kernel)
theorem ml_RX5_30 : Cond.methodLink RX5 30 ⟨"GrainShift$RuleReading", "finish", "()I"⟩ ∈ gs_tbl := gs_t 493 (by decide +kernel) (by decide +kernel)
theorem mf_X5_readAll : gs_MF yX5_readAll cX5_readAll 3 (some .int) 0 := ⟨gs_t 386 (by decide +kernel) (by decide +kernel), gs_t 5 (by decide +kernel) (by decide +kernel), by decide, by decide, by decide +kernel, by decide, by decide⟩
theorem d_X5_put_0 : gd cX5_put 0 (.aload_n 0) 1 1 := ⟨by decide +kernel, rfl⟩
theorem d_X5_put_1 : gd cX5_put 1 (.getfield 19) 3 4 := ⟨by decide +kernel, rfl⟩
theorem d_X5_put_4 : gd cX5_put 4 (.sipush 160) 3 7 := ⟨by decide +kernel, rfl⟩
theorem d_X5_put_7 : gd cX5_put 7 (.if_icmp .ge 23) 3 10 := ⟨by decide +kernel, rfl⟩
theorem d_X5_put_10 : gd cX5_put 10 (.aload_n 0) 1 11 := ⟨by decide +kernel, rfl⟩
theorem d_X5_put_11 : gd cX5_put 11 (.getfield 9) 3 14 := ⟨by decide +kernel, rfl⟩
theorem d_X5_put_14 : gd cX5_put 14 (.aload_n 0) 1 15 := ⟨by decide +kernel, rfl⟩
theorem d_X5_put_15 : gd cX5_put 15 (.getfield 19) 3 18 := ⟨by decide +kernel, rfl⟩
theorem d_X5_put_18 : gd cX5_put 18 (.iload_n 1) 1 19 := ⟨by decide +kernel, rfl⟩
theorem d_X5_put_19 : gd cX5_put 19 .iastore 1 20 := ⟨by decide +kernel, rfl⟩
theorem d_X5_put_20 : gd cX5_put 20 (.aload_n 0) 1 21 := ⟨by decide +kernel, rfl⟩
theorem d_X5_put_21 : gd cX5_put 21 .dup 1 22 := ⟨by decide +kernel, rfl⟩
theorem d_X5_put_22 : gd cX5_put 22 (.getfield 19) 3 25 := ⟨by decide +kernel, rfl⟩
theorem d_X5_put_25 : gd cX5_put 25 (.iconst 1) 1 26 := ⟨by decide +kernel, rfl⟩
theorem d_X5_put_26 : gd cX5_put 26 .iadd 1 27 := ⟨by decide +kernel, rfl⟩
theorem d_X5_put_27 : gd cX5_put 27 (.putfield 19) 3 30 := ⟨by decide +kernel, rfl⟩
theorem d_X5_put_30 : gd cX5_put 30 .return_ 1 31 := ⟨by decide +kernel, rfl⟩
def D_X5_put (x1 : Int32) (μ : gs_M) : Option (gs_M) :=
  if (160 : Int32) ≤ (gI μ 5 4) then (some μ) else (ck (inb (gI μ 5 4) 160) (lt1 (sI μ 6 (Int32.toNatClampNeg (gI μ 5 4)) x1) (fun u3 => lt1 (sI u3 5 4 ((gI u3 5 4) + (1 : Int32))) (fun u4 => some u4))))
section S_X5_put
variable {p : Program} {l : Launch} {e : Env} {R : Room} {s : State} {m : MethodId} {args : Array Value} {below : List Frame} {meth : Method} {c : Code} {ad : Nat → Nat} {g : va_G} {tyc : Nat → ClassId}
set_option maxRecDepth 20000 in
theorem C_X5_put  {x1 : Int32} {μ : gs_M} {μ2 : gs_M}  (hD : D_X5_put x1 μ = some μ2) : CALL yX5_put cX5_put 2 none 0 [.ref 5, .int x1] μ none μ2 := by
  unfold D_X5_put at hD
  refine gs_enter mf_X5_put (Nat.le_of_ble_eq_true rfl) (ls := [.ref 5, .int x1]) rfl (fun p l e R s m args below meth c ad g tyc hK => ?_)
  have hK : KC p R s m args meth c ad g tyc RX5 cX5_put 2 none 0 := hK
  refine r_aload_n hK d_X5_put_0 rfl rfl ?_
  refine r_getI hK d_X5_put_1 fl_RX5_19_4 rfl kd_5 ?_
  refine r_sipush hK d_X5_put_4 cs_160 ?_
  refine r_icmp_ge (tgt := 30) hK d_X5_put_7 (by decide) (fun h1 => ?_) (fun h1 => ?_)
  · have hD := if_t hD h1
    cases hD
    exact r_vret hK d_X5_put_30
  · have hD := if_f hD h1
    refine r_aload_n hK d_X5_put_10 rfl rfl ?_
    refine r_getR hK d_X5_put_11 fl_RX5_9_4 rfl kd_5 ?_
    refine r_ref (b := 6) R0_5_3 ?_
    refine r_aload_n hK d_X5_put_14 rfl rfl ?_
    refine r_getI hK d_X5_put_15 fl_RX5_19_4 rfl kd_5 ?_
    refine r_iload_n hK d_X5_put_18 rfl rfl ?_
    obtain ⟨h2, hD⟩ := ck_e hD
    refine r_iast hK d_X5_put_19 kd_6 ln_6 (inb_in h2) ?_
    refine r_ltm hD (fun u3 hD => ?_)
    refine r_aload_n hK d_X5_put_20 rfl rfl ?_
    refine r_dup hK d_X5_put_21 rfl ?_
    refine r_getI hK d_X5_put_22 fl_RX5_19_4 rfl kd_5 ?_
    refine r_iconst hK d_X5_put_25 ci_1 ?_
    refine r_iadd hK d_X5_put_26 ?_
    refine r_putI hK d_X5_put_27 fl_RX5_19_4 rfl rfl kd_5 ?_
    refine r_ltm hD (fun u4 hD => ?_)
    cases hD
    exact r_vret hK d_X5_put_30
end S_X5_put
theorem d_X5_goesDeeper_0 : gd cX5_goesDeeper 0 (.aload_n 0) 1 1 := ⟨by decide +kernel, rfl⟩
theorem d_X5_goesDeeper_1 : gd cX5_goesDeeper 1 (.invokevirtual 65) 3 4 := ⟨by decide +kernel, rfl⟩
theorem d_X5_goesDeeper_4 : gd cX5_goesDeeper 4 (.ifCond .eq 9) 3 7 := ⟨by decide +kernel, rfl⟩
theorem d_X5_goesDeeper_7 : gd cX5_goesDeeper 7 (.iload_n 1) 1 8 := ⟨by decide +kernel, rfl⟩
theorem d_X5_goesDeeper_8 : gd cX5_goesDeeper 8 (.bipush 6) 2 10 := ⟨by decide +kernel, rfl⟩
theorem d_X5_goesDeeper_10 : gd cX5_goesDeeper 10 (.if_icmp .lt 13) 3 13 := ⟨by decide +kernel, rfl⟩
theorem d_X5_goesDeeper_13 : gd cX5_goesDeeper 13 (.aload_n 0) 1 14 := ⟨by decide +kernel, rfl⟩
theorem d_X5_goesDeeper_14 : gd cX5_goesDeeper 14 (.aload_n 0) 1 15 := ⟨by decide +kernel, rfl⟩
theorem d_X5_goesDeeper_15 : gd cX5_goesDeeper 15 (.getfield 69) 3 18 := ⟨by decide +kernel, rfl⟩
theorem d_X5_goesDeeper_18 : gd cX5_goesDeeper 18 (.invokevirtual 72) 3 21 := ⟨by decide +kernel, rfl⟩
theorem d_X5_goesDeeper_21 : gd cX5_goesDeeper 21 (.iconst 0) 1 22 := ⟨by decide +kernel, rfl⟩
theorem d_X5_goesDeeper_22 : gd cX5_goesDeeper 22 .ireturn 1 23 := ⟨by decide +kernel, rfl⟩
theorem d_X5_goesDeeper_23 : gd cX5_goesDeeper 23 (.aload_n 0) 1 24 := ⟨by decide +kernel, rfl⟩
theorem d_X5_goesDeeper_24 : gd cX5_goesDeeper 24 .dup 1 25 := ⟨by decide +kernel, rfl⟩
theorem d_X5_goesDeeper_25 : gd cX5_goesDeeper 25 (.getfield 69) 3 28 := ⟨by decide +kernel, rfl⟩
theorem d_X5_goesDeeper_28 : gd cX5_goesDeeper 28 (.iconst 1) 1 29 := ⟨by decide +kernel, rfl⟩
theorem d_X5_goesDeeper_29 : gd cX5_goesDeeper 29 .iadd 1 30 := ⟨by decide +kernel, rfl⟩
theorem d_X5_goesDeeper_30 : gd cX5_goesDeeper 30 (.putfield 69) 3 33 := ⟨by decide +kernel, rfl⟩
theorem d_X5_goesDeeper_33 : gd cX5_goesDeeper 33 (.iconst 1) 1 34 := ⟨by decide +kernel, rfl⟩
theorem d_X5_goesDeeper_34 : gd cX5_goesDeeper 34 .ireturn 1 35 := ⟨by decide +kernel, rfl⟩
def B_X5_goesDeeper_13   (μ : gs_M) : Option (Int32 × gs_M) :=
  bd0 (D_X4_failAt 5 (gI μ 5 1) μ) (fun u2 => some ((0 : Int32), u2))
def D_X5_goesDeeper (x1 : Int32) (μ : gs_M) : Option (Int32 × gs_M) :=
  bd (D_X4_isSound 5 μ) (fun v3 u2 => if v3 = 0 then (B_X5_goesDeeper_13 u2) else (if x1 < (6 : Int32) then (lt1 (sI u2 5 1 ((gI u2 5 1) + (1 : Int32))) (fun u6 => some ((1 : Int32), u6))) else (B_X5_goesDeeper_13 u2)))
section S_X5_goesDeeper
variable {p : Program} {l : Launch} {e : Env} {R : Room} {s : State} {m : MethodId} {args : Array Value} {below : List Frame} {meth : Method} {c : Code} {ad : Nat → Nat} {g : va_G} {tyc : Nat → ClassId}
set_option maxRecDepth 20000 in
theorem T_X5_goesDeeper_13  (hK : KC p R s m args meth c ad g tyc RX5 cX5_goesDeeper 2 (some .boolean) 1) {r : Int32} {μ2 : gs_M}    {μ : gs_M}  (hD : B_X5_goesDeeper_13   μ = some (r, μ2)) : WJ p l e R s m args below meth c 0 0 (MQ below (gs_Q ad g tyc (some (.int r)) μ2) args s 0 0 (gs_A ad)) ad g tyc 2 13 [.ref 5, gs_J] [] μ := by
  unfold B_X5_goesDeeper_13 at hD
  refine r_aload_n hK d_X5_goesDeeper_13 rfl rfl ?_
  refine r_aload_n hK d_X5_goesDeeper_14 rfl rfl ?_
  refine r_getI hK d_X5_goesDeeper_15 fl_RX5_69_4 rfl kd_5 ?_
  obtain ⟨u2, e1, hD⟩ := bd0_e hD
  refine r_callU (As := [.int (gI μ 5 1)]) (st := []) (stk2 := []) hK (C_X4_failAt_4 kd_5 e1) d_X5_goesDeeper_18 mf_X4_failAt ml_RX5_72 sm_RX5_X4_failAt ⟨rfl, rfl⟩ im_X4_failAt rfl se_4_RX5_X4_failAt kd_5 rfl (Nat.le_of_ble_eq_true rfl) (by decide) ⟨Nat.zero_le _, Nat.zero_le _⟩ rfl rfl ?_
  refine r_iconst hK d_X5_goesDeeper_21 ci_0 ?_
  cases hD
  exact r_zret hK (Or.inl rfl) d_X5_goesDeeper_22
set_option maxRecDepth 20000 in
theorem C_X5_goesDeeper  {x1 : Int32} {μ : gs_M} {r : Int32} {μ2 : gs_M}  (hD : D_X5_goesDeeper x1 μ = some (r, μ2)) : CALL yX5_goesDeeper cX5_goesDeeper 2 (some .boolean) 1 [.ref 5, .int x1] μ (some (.int r)) μ2 := by
  unfold D_X5_goesDeeper at hD
  refine gs_enter mf_X5_goesDeeper (Nat.le_of_ble_eq_true rfl) (ls := [.ref 5, .int x1]) rfl (fun p l e R s m args below meth c ad g tyc hK => ?_)
  have hK : KC p R s m args meth c ad g tyc RX5 cX5_goesDeeper 2 (some .boolean) 1 := hK
  refine r_aload_n hK d_X5_goesDeeper_0 rfl rfl ?_
  obtain ⟨v3, u2, e1, hD⟩ := bd_e hD
  refine r_callU (As := []) (st := []) (stk2 := [.int v3]) hK (C_X4_isSound_4 kd_5 e1) d_X5_goesDeeper_1 mf_X4_isSound ml_RX5_65 sm_RX5_X4_isSound ⟨rfl, rfl⟩ im_X4_isSound rfl se_4_RX5_X4_isSound kd_5 rfl (Nat.le_of_ble_eq_true rfl) (by decide) ⟨Nat.zero_le _, Nat.zero_le _⟩ rfl rfl ?_
  refine r_if_eq (tgt := 13) hK d_X5_goesDeeper_4 (by decide) (fun h4 => ?_) (fun h4 => ?_)
  · have hD := if_t hD h4
    refine r_junk [true, false] (ls2 := [.ref 5, gs_J]) rfl ?_
    exact T_X5_goesDeeper_13 hK   hD
  · have hD := if_f hD h4
    refine r_iload_n hK d_X5_goesDeeper_7 rfl rfl ?_
    refine r_bipush hK d_X5_goesDeeper_8 cb_6 ?_
    refine r_icmp_lt (tgt := 23) hK d_X5_goesDeeper_10 (by decide) (fun h5 => ?_) (fun h5 => ?_)
    · have hD := if_t hD h5
      refine r_aload_n hK d_X5_goesDeeper_23 rfl rfl ?_
      refine r_dup hK d_X5_goesDeeper_24 rfl ?_
      refine r_getI hK d_X5_goesDeeper_25 fl_RX5_69_4 rfl kd_5 ?_
      refine r_iconst hK d_X5_goesDeeper_28 ci_1 ?_
      refine r_iadd hK d_X5_goesDeeper_29 ?_
      refine r_putI hK d_X5_goesDeeper_30 fl_RX5_69_4 rfl rfl kd_5 ?_
      refine r_ltm hD (fun u6 hD => ?_)
      refine r_iconst hK d_X5_goesDeeper_33 ci_1 ?_
      cases hD
      exact r_zret hK (Or.inr rfl) d_X5_goesDeeper_34
    · have hD := if_f hD h5
      refine r_junk [true, false] (ls2 := [.ref 5, gs_J]) rfl ?_
      exact T_X5_goesDeeper_13 hK   hD
end S_X5_goesDeeper
theorem d_X5_isComparison_0 : gd cX5_isComparison 0 (.iload_n 0) 1 1 := ⟨by decide +kernel, rfl⟩
theorem d_X5_isComparison_1 : gd cX5_isComparison 1 (.bipush 61) 2 3 := ⟨by decide +kernel, rfl⟩
theorem d_X5_isComparison_3 : gd cX5_isComparison 3 (.if_icmp .eq 15) 3 6 := ⟨by decide +kernel, rfl⟩
theorem d_X5_isComparison_6 : gd cX5_isComparison 6 (.iload_n 0) 1 7 := ⟨by decide +kernel, rfl⟩
theorem d_X5_isComparison_7 : gd cX5_isComparison 7 (.bipush 60) 2 9 := ⟨by decide +kernel, rfl⟩
theorem d_X5_isComparison_9 : gd cX5_isComparison 9 (.if_icmp .eq 9) 3 12 := ⟨by decide +kernel, rfl⟩
theorem d_X5_isComparison_12 : gd cX5_isComparison 12 (.iload_n 0) 1 13 := ⟨by decide +kernel, rfl⟩
theorem d_X5_isComparison_13 : gd cX5_isComparison 13 (.bipush 62) 2 15 := ⟨by decide +kernel, rfl⟩
theorem d_X5_isComparison_15 : gd cX5_isComparison 15 (.if_icmp .ne 7) 3 18 := ⟨by decide +kernel, rfl⟩
theorem d_X5_isComparison_18 : gd cX5_isComparison 18 (.iconst 1) 1 19 := ⟨by decide +kernel, rfl⟩
theorem d_X5_isComparison_19 : gd cX5_isComparison 19 (.goto 4) 3 22 := ⟨by decide +kernel, rfl⟩
theorem d_X5_isComparison_22 : gd cX5_isComparison 22 (.iconst 0) 1 23 := ⟨by decide +kernel, rfl⟩
theorem d_X5_isComparison_23 : gd cX5_isComparison 23 .ireturn 1 24 := ⟨by decide +kernel, rfl⟩
def D_X5_isComparison (x0 : Int32) (μ : gs_M) : Option (Int32 × gs_M) :=
  if x0 = (61 : Int32) then (some ((1 : Int32), μ)) else (if x0 = (60 : Int32) then (some ((1 : Int32), μ)) else (if x0 = (62 : Int32) then (some ((1 : Int32), μ)) else (some ((0 : Int32), μ))))
section S_X5_isComparison
variable {p : Program} {l : Launch} {e : Env} {R : Room} {s : State} {m : MethodId} {args : Array Value} {below : List Frame} {meth : Method} {c : Code} {ad : Nat → Nat} {g : va_G} {tyc : Nat → ClassId}
set_option maxRecDepth 20000 in
theorem C_X5_isComparison  {x0 : Int32} {μ : gs_M} {r : Int32} {μ2 : gs_M}  (hD : D_X5_isComparison x0 μ = some (r, μ2)) : CALL yX5_isComparison cX5_isComparison 1 (some .boolean) 0 [.int x0] μ (some (.int r)) μ2 := by
  unfold D_X5_isComparison at hD
  refine gs_enter mf_X5_isComparison (Nat.le_of_ble_eq_true rfl) (ls := [.int x0]) rfl (fun p l e R s m args below meth c ad g tyc hK => ?_)
  have hK : KC p R s m args meth c ad g tyc RX5 cX5_isComparison 1 (some .boolean) 0 := hK
  refine r_iload_n hK d_X5_isComparison_0 rfl rfl ?_
  refine r_bipush hK d_X5_isComparison_1 cb_61 ?_
  refine r_icmp_eq (tgt := 18) hK d_X5_isComparison_3 (by decide) (fun h1 => ?_) (fun h1 => ?_)
  · have hD := if_t hD h1
    refine r_iconst hK d_X5_isComparison_18 ci_1 ?_
    refine r_goto (tgt := 23) hK d_X5_isComparison_19 (by decide) ?_
    cases hD
    exact r_zret hK (Or.inr rfl) d_X5_isComparison_23
  · have hD := if_f hD h1
    refine r_iload_n hK d_X5_isComparison_6 rfl rfl ?_
    refine r_bipush hK d_X5_isComparison_7 cb_60 ?_
    refine r_icmp_eq (tgt := 18) hK d_X5_isComparison_9 (by decide) (fun h2 => ?_) (fun h2 => ?_)
    · have hD := if_t hD h2
      refine r_iconst hK d_X5_isComparison_18 ci_1 ?_
      refine r_goto (tgt := 23) hK d_X5_isComparison_19 (by decide) ?_
      cases hD
      exact r_zret hK (Or.inr rfl) d_X5_isComparison_23
    · have hD := if_f hD h2
      refine r_iload_n hK d_X5_isComparison_12 rfl rfl ?_
      refine r_bipush hK d_X5_isComparison_13 cb_62 ?_
      refine r_icmp_ne (tgt := 22) hK d_X5_isComparison_15 (by decide) (fun h3 => ?_) (fun h3 => ?_)
      · have hD := if_f hD h3
        refine r_iconst hK d_X5_isComparison_22 ci_0 ?_
        cases hD
        exact r_zret hK (Or.inl rfl) d_X5_isComparison_23
      · have hD := if_t hD h3
        refine r_iconst hK d_X5_isComparison_18 ci_1 ?_
        refine r_goto (tgt := 23) hK d_X5_isComparison_19 (by decide) ?_
        cases hD
        exact r_zret hK (Or.inr rfl) d_X5_isComparison_23
end S_X5_isComparison
theorem d_X5_readUnit_0 : gd cX5_readUnit 0 (.aload_n 0) 1 1 := ⟨by decide +kernel, rfl⟩
theorem d_X5_readUnit_1 : gd cX5_readUnit 1 (.invokevirtual 38) 3 4 := ⟨by decide +kernel, rfl⟩
theorem d_X5_readUnit_4 : gd cX5_readUnit 4 (.istore_n 2) 1 5 := ⟨by decide +kernel, rfl⟩
theorem d_X5_readUnit_5 : gd cX5_readUnit 5 (.iload_n 2) 1 6 := ⟨by decide +kernel, rfl⟩
theorem d_X5_readUnit_6 : gd cX5_readUnit 6 (.bipush 33) 2 8 := ⟨by decide +kernel, rfl⟩
theorem d_X5_readUnit_8 : gd cX5_readUnit 8 (.if_icmp .ne 27) 3 11 := ⟨by decide +kernel, rfl⟩
theorem d_X5_readUnit_11 : gd cX5_readUnit 11 (.aload_n 0) 1 12 := ⟨by decide +kernel, rfl⟩
theorem d_X5_readUnit_12 : gd cX5_readUnit 12 (.iload_n 1) 1 13 := ⟨by decide +kernel, rfl⟩
theorem d_X5_readUnit_13 : gd cX5_readUnit 13 (.invokevirtual 62) 3 16 := ⟨by decide +kernel, rfl⟩
theorem d_X5_readUnit_16 : gd cX5_readUnit 16 (.ifCond .eq 66) 3 19 := ⟨by decide +kernel, rfl⟩
theorem d_X5_readUnit_19 : gd cX5_readUnit 19 (.aload_n 0) 1 20 := ⟨by decide +kernel, rfl⟩
theorem d_X5_readUnit_20 : gd cX5_readUnit 20 (.iload_n 1) 1 21 := ⟨by decide +kernel, rfl⟩
theorem d_X5_readUnit_21 : gd cX5_readUnit 21 (.iconst 1) 1 22 := ⟨by decide +kernel, rfl⟩
theorem d_X5_readUnit_22 : gd cX5_readUnit 22 .iadd 1 23 := ⟨by decide +kernel, rfl⟩
theorem d_X5_readUnit_23 : gd cX5_readUnit 23 (.invokevirtual 41) 3 26 := ⟨by decide +kernel, rfl⟩
theorem d_X5_readUnit_26 : gd cX5_readUnit 26 (.aload_n 0) 1 27 := ⟨by decide +kernel, rfl⟩
theorem d_X5_readUnit_27 : gd cX5_readUnit 27 (.bipush (-33)) 2 29 := ⟨by decide +kernel, rfl⟩
theorem d_X5_readUnit_29 : gd cX5_readUnit 29 (.invokevirtual 53) 3 32 := ⟨by decide +kernel, rfl⟩
theorem d_X5_readUnit_32 : gd cX5_readUnit 32 (.goto 50) 3 35 := ⟨by decide +kernel, rfl⟩
theorem d_X5_readUnit_35 : gd cX5_readUnit 35 (.iload_n 2) 1 36 := ⟨by decide +kernel, rfl⟩
theorem d_X5_readUnit_36 : gd cX5_readUnit 36 (.bipush 40) 2 38 := ⟨by decide +kernel, rfl⟩
theorem d_X5_readUnit_38 : gd cX5_readUnit 38 (.if_icmp .ne 34) 3 41 := ⟨by decide +kernel, rfl⟩
theorem d_X5_readUnit_41 : gd cX5_readUnit 41 (.aload_n 0) 1 42 := ⟨by decide +kernel, rfl⟩
theorem d_X5_readUnit_42 : gd cX5_readUnit 42 (.iload_n 1) 1 43 := ⟨by decide +kernel, rfl⟩
theorem d_X5_readUnit_43 : gd cX5_readUnit 43 (.invokevirtual 62) 3 46 := ⟨by decide +kernel, rfl⟩
theorem d_X5_readUnit_46 : gd cX5_readUnit 46 (.ifCond .eq 36) 3 49 := ⟨by decide +kernel, rfl⟩
theorem d_X5_readUnit_49 : gd cX5_readUnit 49 (.aload_n 0) 1 50 := ⟨by decide +kernel, rfl⟩
theorem d_X5_readUnit_50 : gd cX5_readUnit 50 (.iload_n 1) 1 51 := ⟨by decide +kernel, rfl⟩
theorem d_X5_readUnit_51 : gd cX5_readUnit 51 (.iconst 1) 1 52 := ⟨by decide +kernel, rfl⟩
theorem d_X5_readUnit_52 : gd cX5_readUnit 52 .iadd 1 53 := ⟨by decide +kernel, rfl⟩
theorem d_X5_readUnit_53 : gd cX5_readUnit 53 (.invokevirtual 41) 3 56 := ⟨by decide +kernel, rfl⟩
theorem d_X5_readUnit_56 : gd cX5_readUnit 56 (.aload_n 0) 1 57 := ⟨by decide +kernel, rfl⟩
theorem d_X5_readUnit_57 : gd cX5_readUnit 57 (.iload_n 1) 1 58 := ⟨by decide +kernel, rfl⟩
theorem d_X5_readUnit_58 : gd cX5_readUnit 58 (.iconst 1) 1 59 := ⟨by decide +kernel, rfl⟩
theorem d_X5_readUnit_59 : gd cX5_readUnit 59 .iadd 1 60 := ⟨by decide +kernel, rfl⟩
theorem d_X5_readUnit_60 : gd cX5_readUnit 60 (.invokevirtual 44) 3 63 := ⟨by decide +kernel, rfl⟩
theorem d_X5_readUnit_63 : gd cX5_readUnit 63 (.aload_n 0) 1 64 := ⟨by decide +kernel, rfl⟩
theorem d_X5_readUnit_64 : gd cX5_readUnit 64 (.bipush 41) 2 66 := ⟨by decide +kernel, rfl⟩
theorem d_X5_readUnit_66 : gd cX5_readUnit 66 (.invokevirtual 34) 3 69 := ⟨by decide +kernel, rfl⟩
theorem d_X5_readUnit_69 : gd cX5_readUnit 69 (.goto 13) 3 72 := ⟨by decide +kernel, rfl⟩
theorem d_X5_readUnit_72 : gd cX5_readUnit 72 (.aload_n 0) 1 73 := ⟨by decide +kernel, rfl⟩
theorem d_X5_readUnit_73 : gd cX5_readUnit 73 (.iload_n 1) 1 74 := ⟨by decide +kernel, rfl⟩
theorem d_X5_readUnit_74 : gd cX5_readUnit 74 (.invokevirtual 47) 3 77 := ⟨by decide +kernel, rfl⟩
theorem d_X5_readUnit_77 : gd cX5_readUnit 77 (.aload_n 0) 1 78 := ⟨by decide +kernel, rfl⟩
theorem d_X5_readUnit_78 : gd cX5_readUnit 78 (.iload_n 1) 1 79 := ⟨by decide +kernel, rfl⟩
theorem d_X5_readUnit_79 : gd cX5_readUnit 79 (.invokevirtual 56) 3 82 := ⟨by decide +kernel, rfl⟩
theorem d_X5_readUnit_82 : gd cX5_readUnit 82 .return_ 1 83 := ⟨by decide +kernel, rfl⟩
def O_X5_readUnit (E : Nat → Int32 → gs_M → Option gs_M) (x1 : Int32) (μ : gs_M) : Option (gs_M) :=
  bd (D_X4_next 5 μ) (fun v3 u2 => if v3 = (33 : Int32) then (bd (D_X5_goesDeeper x1 u2) (fun v22 u21 => if v22 = 0 then (some u21) else (bd0 (E 0 (x1 + (1 : Int32)) u21) (fun u25 => bd0 (D_X5_put (-33 : Int32) u25) (fun u27 => some u27))))) else (if v3 = (40 : Int32) then (bd (D_X5_goesDeeper x1 u2) (fun v12 u11 => if v12 = 0 then (some u11) else (bd0 (E 0 (x1 + (1 : Int32)) u11) (fun u15 => bd0 (E 1 (x1 + (1 : Int32)) u15) (fun u17 => bd0 (D_X4_expect 5 (41 : Int32) u17) (fun u19 => some u19)))))) else (bd0 (E 4 x1 u2) (fun u7 => bd0 (E 3 x1 u7) (fun u9 => some u9)))))
section S_X5_readUnit
variable {p : Program} {l : Launch} {e : Env} {R : Room} {s : State} {m : MethodId} {args : Array Value} {below : List Frame} {meth : Method} {c : Code} {ad : Nat → Nat} {g : va_G} {tyc : Nat → ClassId}
set_option maxRecDepth 20000 in
theorem C_X5_readUnit {n0 : Nat} {E : Nat → Int32 → gs_M → Option gs_M} (hE0 : ∀ (y0 : Int32) (μ : gs_M) (μ2 : gs_M), E 0 y0 μ = some μ2 → CALL yX5_readUnit cX5_readUnit 3 none (n0 + 10) [.ref 5, .int y0] μ none μ2) (hE1 : ∀ (y0 : Int32) (μ : gs_M) (μ2 : gs_M), E 1 y0 μ = some μ2 → CALL yX5_readConditionOn cX5_readConditionOn 3 none (n0 + 10) [.ref 5, .int y0] μ none μ2) (hE2 : ∀ (y0 : Int32) (μ : gs_M) (μ2 : gs_M), E 2 y0 μ = some μ2 → CALL yX5_readTruthOn cX5_readTruthOn 3 none (n0 + 10) [.ref 5, .int y0] μ none μ2) (hE3 : ∀ (y0 : Int32) (μ : gs_M) (μ2 : gs_M), E 3 y0 μ = some μ2 → CALL yX5_readComparison cX5_readComparison 3 none (n0 + 10) [.ref 5, .int y0] μ none μ2) (hE4 : ∀ (y0 : Int32) (μ : gs_M) (μ2 : gs_M), E 4 y0 μ = some μ2 → CALL yX5_readSum cX5_readSum 4 none (n0 + 10) [.ref 5, .int y0] μ none μ2) (hE5 : ∀ (y0 : Int32) (μ : gs_M) (μ2 : gs_M), E 5 y0 μ = some μ2 → CALL yX5_readTerm cX5_readTerm 4 none (n0 + 10) [.ref 5, .int y0] μ none μ2) (hE6 : ∀ (y0 : Int32) (μ : gs_M) (μ2 : gs_M), E 6 y0 μ = some μ2 → CALL yX5_readAtom cX5_readAtom 3 none (n0 + 10) [.ref 5, .int y0] μ none μ2) {x1 : Int32} {μ : gs_M} {μ2 : gs_M}  (hD : O_X5_readUnit E x1 μ = some μ2) : CALL yX5_readUnit cX5_readUnit 3 none (n0 + 11) [.ref 5, .int x1] μ none μ2 := by
  unfold O_X5_readUnit at hD
  refine gs_enter mf_X5_readUnit (Nat.le_of_ble_eq_true rfl) (ls := [.ref 5, .int x1, gs_J]) rfl (fun p l e R s m args below meth c ad g tyc hK => ?_)
  have hK : KC p R s m args meth c ad g tyc RX5 cX5_readUnit 3 none (n0 + 11) := hK
  refine r_aload_n hK d_X5_readUnit_0 rfl rfl ?_
  obtain ⟨v3, u2, e1, hD⟩ := bd_e hD
  refine r_callU (As := []) (st := []) (stk2 := [.int v3]) hK (C_X4_next_4 kd_5 e1) d_X5_readUnit_1 mf_X4_next ml_RX5_38 sm_RX5_X4_next ⟨rfl, rfl⟩ im_X4_next rfl se_4_RX5_X4_next kd_5 rfl (Nat.le_of_ble_eq_true rfl) (by omega) ⟨Nat.zero_le _, Nat.zero_le _⟩ rfl rfl ?_
  refine r_istore_n hK d_X5_readUnit_4 rfl (by decide) (ls2 := [.ref 5, .int x1, .int v3]) rfl ?_
  refine r_iload_n hK d_X5_readUnit_5 rfl rfl ?_
  refine r_bipush hK d_X5_readUnit_6 cb_33 ?_
  refine r_icmp_ne (tgt := 35) hK d_X5_readUnit_8 (by decide) (fun h4 => ?_) (fun h4 => ?_)
  · have hD := if_f hD h4
    refine r_iload_n hK d_X5_readUnit_35 rfl rfl ?_
    refine r_bipush hK d_X5_readUnit_36 cb_40 ?_
    refine r_icmp_ne (tgt := 72) hK d_X5_readUnit_38 (by decide) (fun h5 => ?_) (fun h5 => ?_)
    · have hD := if_f hD h5
      refine r_aload_n hK d_X5_readUnit_72 rfl rfl ?_
      refine r_iload_n hK d_X5_readUnit_73 rfl rfl ?_
      obtain ⟨u7, e6, hD⟩ := bd0_e hD
      refine r_callV (As := [.int x1]) (st := []) (stk2 := []) hK (hE4 _ _ _ e6) d_X5_readUnit_74 mf_X5_readSum ml_RX5_47 im_X5_readSum rfl se_4_RX5_X5_readSum kd_5 rfl (Nat.le_of_ble_eq_true rfl) (by omega) ⟨Nat.zero_le _, Nat.zero_le _⟩ rfl rfl ?_
      refine r_aload_n hK d_X5_readUnit_77 rfl rfl ?_
      refine r_iload_n hK d_X5_readUnit_78 rfl rfl ?_
      obtain ⟨u9, e8, hD⟩ := bd0_e hD
      refine r_callV (As := [.int x1]) (st := []) (stk2 := []) hK (hE3 _ _ _ e8) d_X5_readUnit_79 mf_X5_readComparison ml_RX5_56 im_X5_readComparison rfl se_4_RX5_X5_readComparison kd_5 rfl (Nat.le_of_ble_eq_true rfl) (by omega) ⟨Nat.zero_le _, Nat.zero_le _⟩ rfl rfl ?_
      cases hD
      exact r_vret hK d_X5_readUnit_82
    · have hD := if_t hD h5
      refine r_aload_n hK d_X5_readUnit_41 rfl rfl ?_
      refine r_iload_n hK d_X5_readUnit_42 rfl rfl ?_
      obtain ⟨v12, u11, e10, hD⟩ := bd_e hD
      refine r_callV (As := [.int x1]) (st := []) (stk2 := [.int v12]) hK (C_X5_goesDeeper  e10) d_X5_readUnit_43 mf_X5_goesDeeper ml_RX5_62 im_X5_goesDeeper rfl se_4_RX5_X5_goesDeeper kd_5 rfl (Nat.le_of_ble_eq_true rfl) (by omega) ⟨Nat.zero_le _, Nat.zero_le _⟩ rfl rfl ?_
      refine r_if_eq (tgt := 82) hK d_X5_readUnit_46 (by decide) (fun h13 => ?_) (fun h13 => ?_)
      · have hD := if_t hD h13
        cases hD
        exact r_vret hK d_X5_readUnit_82
      · have hD := if_f hD h13
        refine r_aload_n hK d_X5_readUnit_49 rfl rfl ?_
        refine r_iload_n hK d_X5_readUnit_50 rfl rfl ?_
        refine r_iconst hK d_X5_readUnit_51 ci_1 ?_
        refine r_iadd hK d_X5_readUnit_52 ?_
        obtain ⟨u15, e14, hD⟩ := bd0_e hD
        refine r_callV (As := [.int (x1 + (1 : Int32))]) (st := []) (stk2 := []) hK (hE0 _ _ _ e14) d_X5_readUnit_53 mf_X5_readUnit ml_RX5_41 im_X5_readUnit rfl se_4_RX5_X5_readUnit kd_5 rfl (Nat.le_of_ble_eq_true rfl) (by omega) ⟨Nat.zero_le _, Nat.zero_le _⟩ rfl rfl ?_
        refine r_aload_n hK d_X5_readUnit_56 rfl rfl ?_
        refine r_iload_n hK d_X5_readUnit_57 rfl rfl ?_
        refine r_iconst hK d_X5_readUnit_58 ci_1 ?_
        refine r_iadd hK d_X5_readUnit_59 ?_
        obtain ⟨u17, e16, hD⟩ := bd0_e hD
        refine r_callV (As := [.int (x1 + (1 : Int32))]) (st := []) (stk2 := []) hK (hE1 _ _ _ e16) d_X5_readUnit_60 mf_X5_readConditionOn ml_RX5_44 im_X5_readConditionOn rfl se_4_RX5_X5_readConditionOn kd_5 rfl (Nat.le_of_ble_eq_true rfl) (by omega) ⟨Nat.zero_le _, Nat.zero_le _⟩ rfl rfl ?_
        refine r_aload_n hK d_X5_readUnit_63 rfl rfl ?_
        refine r_bipush hK d_X5_readUnit_64 cb_41 ?_
        obtain ⟨u19, e18, hD⟩ := bd0_e hD
        refine r_callU (As := [.int (41 : Int32)]) (st := []) (stk2 := []) hK (C_X4_expect_4 kd_5 e18) d_X5_readUnit_66 mf_X4_expect ml_RX5_34 sm_RX5_X4_expect ⟨rfl, rfl⟩ im_X4_expect rfl se_4_RX5_X4_expect kd_5 rfl (Nat.le_of_ble_eq_true rfl) (by omega) ⟨Nat.zero_le _, Nat.zero_le _⟩ rfl rfl ?_
        refine r_goto (tgt := 82) hK d_X5_readUnit_69 (by decide) ?_
        cases hD
        exact r_vret hK d_X5_readUnit_82
  · have hD := if_t hD h4
    refine r_aload_n hK d_X5_readUnit_11 rfl rfl ?_
    refine r_iload_n hK d_X5_readUnit_12 rfl rfl ?_
    obtain ⟨v22, u21, e20, hD⟩ := bd_e hD
    refine r_callV (As := [.int x1]) (st := []) (stk2 := [.int v22]) hK (C_X5_goesDeeper  e20) d_X5_readUnit_13 mf_X5_goesDeeper ml_RX5_62 im_X5_goesDeeper rfl se_4_RX5_X5_goesDeeper kd_5 rfl (Nat.le_of_ble_eq_true rfl) (by omega) ⟨Nat.zero_le _, Nat.zero_le _⟩ rfl rfl ?_
    refine r_if_eq (tgt := 82) hK d_X5_readUnit_16 (by decide) (fun h23 => ?_) (fun h23 => ?_)
    · have hD := if_t hD h23
      cases hD
      exact r_vret hK d_X5_readUnit_82
    · have hD := if_f hD h23
      refine r_aload_n hK d_X5_readUnit_19 rfl rfl ?_
      refine r_iload_n hK d_X5_readUnit_20 rfl rfl ?_
      refine r_iconst hK d_X5_readUnit_21 ci_1 ?_
      refine r_iadd hK d_X5_readUnit_22 ?_
      obtain ⟨u25, e24, hD⟩ := bd0_e hD
      refine r_callV (As := [.int (x1 + (1 : Int32))]) (st := []) (stk2 := []) hK (hE0 _ _ _ e24) d_X5_readUnit_23 mf_X5_readUnit ml_RX5_41 im_X5_readUnit rfl se_4_RX5_X5_readUnit kd_5 rfl (Nat.le_of_ble_eq_true rfl) (by omega) ⟨Nat.zero_le _, Nat.zero_le _⟩ rfl rfl ?_
      refine r_aload_n hK d_X5_readUnit_26 rfl rfl ?_
      refine r_bipush hK d_X5_readUnit_27 cb_m33 ?_
      obtain ⟨u27, e26, hD⟩ := bd0_e hD
      refine r_callV (As := [.int (-33 : Int32)]) (st := []) (stk2 := []) hK (C_X5_put  e26) d_X5_readUnit_29 mf_X5_put ml_RX5_53 im_X5_put rfl se_4_RX5_X5_put kd_5 rfl (Nat.le_of_ble_eq_true rfl) (by omega) ⟨Nat.zero_le _, Nat.zero_le _⟩ rfl rfl ?_
      refine r_goto (tgt := 82) hK d_X5_readUnit_32 (by decide) ?_
      cases hD
      exact r_vret hK d_X5_readUnit_82
end S_X5_readUnit
theorem d_X5_readConditionOn_0 : gd cX5_readConditionOn 0 (.aload_n 0) 1 1 := ⟨by decide +kernel, rfl⟩
theorem d_X5_readConditionOn_1 : gd cX5_readConditionOn 1 (.iload_n 1) 1 2 := ⟨by decide +kernel, rfl⟩
theorem d_X5_readConditionOn_2 : gd cX5_readConditionOn 2 (.invokevirtual 59) 3 5 := ⟨by decide +kernel, rfl⟩
theorem d_X5_readConditionOn_5 : gd cX5_readConditionOn 5 (.iconst 0) 1 6 := ⟨by decide +kernel, rfl⟩
theorem d_X5_readConditionOn_6 : gd cX5_readConditionOn 6 (.istore_n 2) 1 7 := ⟨by decide +kernel, rfl⟩
theorem d_X5_readConditionOn_7 : gd cX5_readConditionOn 7 (.iload_n 2) 1 8 := ⟨by decide +kernel, rfl⟩
theorem d_X5_readConditionOn_8 : gd cX5_readConditionOn 8 (.sipush 160) 3 11 := ⟨by decide +kernel, rfl⟩
theorem d_X5_readConditionOn_11 : gd cX5_readConditionOn 11 (.if_icmp .ge 34) 3 14 := ⟨by decide +kernel, rfl⟩
theorem d_X5_readConditionOn_14 : gd cX5_readConditionOn 14 (.aload_n 0) 1 15 := ⟨by decide +kernel, rfl⟩
theorem d_X5_readConditionOn_15 : gd cX5_readConditionOn 15 (.bipush 124) 2 17 := ⟨by decide +kernel, rfl⟩
theorem d_X5_readConditionOn_17 : gd cX5_readConditionOn 17 (.invokevirtual 26) 3 20 := ⟨by decide +kernel, rfl⟩
theorem d_X5_readConditionOn_20 : gd cX5_readConditionOn 20 (.ifCond .eq 25) 3 23 := ⟨by decide +kernel, rfl⟩
theorem d_X5_readConditionOn_23 : gd cX5_readConditionOn 23 (.aload_n 0) 1 24 := ⟨by decide +kernel, rfl⟩
theorem d_X5_readConditionOn_24 : gd cX5_readConditionOn 24 (.iload_n 1) 1 25 := ⟨by decide +kernel, rfl⟩
theorem d_X5_readConditionOn_25 : gd cX5_readConditionOn 25 (.invokevirtual 41) 3 28 := ⟨by decide +kernel, rfl⟩
theorem d_X5_readConditionOn_28 : gd cX5_readConditionOn 28 (.aload_n 0) 1 29 := ⟨by decide +kernel, rfl⟩
theorem d_X5_readConditionOn_29 : gd cX5_readConditionOn 29 (.iload_n 1) 1 30 := ⟨by decide +kernel, rfl⟩
theorem d_X5_readConditionOn_30 : gd cX5_readConditionOn 30 (.invokevirtual 59) 3 33 := ⟨by decide +kernel, rfl⟩
theorem d_X5_readConditionOn_33 : gd cX5_readConditionOn 33 (.aload_n 0) 1 34 := ⟨by decide +kernel, rfl⟩
theorem d_X5_readConditionOn_34 : gd cX5_readConditionOn 34 (.bipush (-124)) 2 36 := ⟨by decide +kernel, rfl⟩
theorem d_X5_readConditionOn_36 : gd cX5_readConditionOn 36 (.invokevirtual 53) 3 39 := ⟨by decide +kernel, rfl⟩
theorem d_X5_readConditionOn_39 : gd cX5_readConditionOn 39 (.iinc 2 1) 3 42 := ⟨by decide +kernel, rfl⟩
theorem d_X5_readConditionOn_42 : gd cX5_readConditionOn 42 (.goto (-35)) 3 45 := ⟨by decide +kernel, rfl⟩
theorem d_X5_readConditionOn_45 : gd cX5_readConditionOn 45 .return_ 1 46 := ⟨by decide +kernel, rfl⟩
def Bo_X5_readConditionOn_7 (E : Nat → Int32 → gs_M → Option gs_M) (q7 : Int32 → Int32 → gs_M → Option (gs_M)) (x1 : Int32) (x2 : Int32) (μ : gs_M) : Option (gs_M) :=
  if (160 : Int32) ≤ x2 then (some μ) else (bd (D_X4_accept 5 (124 : Int32) μ) (fun v4 u3 => if v4 = 0 then (some u3) else (bd0 (E 0 x1 u3) (fun u7 => bd0 (E 2 x1 u7) (fun u9 => bd0 (D_X5_put (-124 : Int32) u9) (fun u11 => q7 x1 (x2 + (1 : Int32)) u11))))))
def L_X5_readConditionOn_7 (E : Nat → Int32 → gs_M → Option gs_M)  : Nat → Int32 → Int32 → gs_M → Option (gs_M)
  | 0 => fun _ _ _ => none
  | n + 1 => fun x1 x2 μ => Bo_X5_readConditionOn_7 E  (L_X5_readConditionOn_7 E  n) x1 x2 μ
def O_X5_readConditionOn (E : Nat → Int32 → gs_M → Option gs_M) (x1 : Int32) (μ : gs_M) : Option (gs_M) :=
  bd0 (E 2 x1 μ) (fun u2 => L_X5_readConditionOn_7 E 4096 x1 (0 : Int32) u2)
section S_X5_readConditionOn
variable {p : Program} {l : Launch} {e : Env} {R : Room} {s : State} {m : MethodId} {args : Array Value} {below : List Frame} {meth : Method} {c : Code} {ad : Nat → Nat} {g : va_G} {tyc : Nat → ClassId}
set_option maxRecDepth 20000 in
theorem To_X5_readConditionOn_7 {n0 : Nat} {E : Nat → Int32 → gs_M → Option gs_M} (hE0 : ∀ (y0 : Int32) (μ : gs_M) (μ2 : gs_M), E 0 y0 μ = some μ2 → CALL yX5_readUnit cX5_readUnit 3 none (n0 + 10) [.ref 5, .int y0] μ none μ2) (hE1 : ∀ (y0 : Int32) (μ : gs_M) (μ2 : gs_M), E 1 y0 μ = some μ2 → CALL yX5_readConditionOn cX5_readConditionOn 3 none (n0 + 10) [.ref 5, .int y0] μ none μ2) (hE2 : ∀ (y0 : Int32) (μ : gs_M) (μ2 : gs_M), E 2 y0 μ = some μ2 → CALL yX5_readTruthOn cX5_readTruthOn 3 none (n0 + 10) [.ref 5, .int y0] μ none μ2) (hE3 : ∀ (y0 : Int32) (μ : gs_M) (μ2 : gs_M), E 3 y0 μ = some μ2 → CALL yX5_readComparison cX5_readComparison 3 none (n0 + 10) [.ref 5, .int y0] μ none μ2) (hE4 : ∀ (y0 : Int32) (μ : gs_M) (μ2 : gs_M), E 4 y0 μ = some μ2 → CALL yX5_readSum cX5_readSum 4 none (n0 + 10) [.ref 5, .int y0] μ none μ2) (hE5 : ∀ (y0 : Int32) (μ : gs_M) (μ2 : gs_M), E 5 y0 μ = some μ2 → CALL yX5_readTerm cX5_readTerm 4 none (n0 + 10) [.ref 5, .int y0] μ none μ2) (hE6 : ∀ (y0 : Int32) (μ : gs_M) (μ2 : gs_M), E 6 y0 μ = some μ2 → CALL yX5_readAtom cX5_readAtom 3 none (n0 + 10) [.ref 5, .int y0] μ none μ2) (hK : KC p R s m args meth c ad g tyc RX5 cX5_readConditionOn 3 none (n0 + 11)) {μ2 : gs_M} {q7 : Int32 → Int32 → gs_M → Option (gs_M)} (hq7 : ∀ (x1 : Int32) (x2 : Int32) (μ : gs_M), q7 x1 x2 μ = some μ2 → WJ p l e R s m args below meth c 0 0 (MQ below (gs_Q ad g tyc none μ2) args s 0 0 (gs_A ad)) ad g tyc 3 7 [.ref 5, .int x1, .int x2] [] μ) {x1 : Int32} {x2 : Int32} {μ : gs_M}  (hD : Bo_X5_readConditionOn_7 E q7 x1 x2 μ = some μ2) : WJ p l e R s m args below meth c 0 0 (MQ below (gs_Q ad g tyc none μ2) args s 0 0 (gs_A ad)) ad g tyc 3 7 [.ref 5, .int x1, .int x2] [] μ := by
  unfold Bo_X5_readConditionOn_7 at hD
  refine r_iload_n hK d_X5_readConditionOn_7 rfl rfl ?_
  refine r_sipush hK d_X5_readConditionOn_8 cs_160 ?_
  refine r_icmp_ge (tgt := 45) hK d_X5_readConditionOn_11 (by decide) (fun h1 => ?_) (fun h1 => ?_)
  · have hD := if_t hD h1
    cases hD
    exact r_vret hK d_X5_readConditionOn_45
  · have hD := if_f hD h1
    refine r_aload_n hK d_X5_readConditionOn_14 rfl rfl ?_
    refine r_bipush hK d_X5_readConditionOn_15 cb_124 ?_
    obtain ⟨v4, u3, e2, hD⟩ := bd_e hD
    refine r_callU (As := [.int (124 : Int32)]) (st := []) (stk2 := [.int v4]) hK (C_X4_accept_4 kd_5 e2) d_X5_readConditionOn_17 mf_X4_accept ml_RX5_26 sm_RX5_X4_accept ⟨rfl, rfl⟩ im_X4_accept rfl se_4_RX5_X4_accept kd_5 rfl (Nat.le_of_ble_eq_true rfl) (by omega) ⟨Nat.zero_le _, Nat.zero_le _⟩ rfl rfl ?_
    refine r_if_eq (tgt := 45) hK d_X5_readConditionOn_20 (by decide) (fun h5 => ?_) (fun h5 => ?_)
    · have hD := if_t hD h5
      cases hD
      exact r_vret hK d_X5_readConditionOn_45
    · have hD := if_f hD h5
      refine r_aload_n hK d_X5_readConditionOn_23 rfl rfl ?_
      refine r_iload_n hK d_X5_readConditionOn_24 rfl rfl ?_
      obtain ⟨u7, e6, hD⟩ := bd0_e hD
      refine r_callV (As := [.int x1]) (st := []) (stk2 := []) hK (hE0 _ _ _ e6) d_X5_readConditionOn_25 mf_X5_readUnit ml_RX5_41 im_X5_readUnit rfl se_4_RX5_X5_readUnit kd_5 rfl (Nat.le_of_ble_eq_true rfl) (by omega) ⟨Nat.zero_le _, Nat.zero_le _⟩ rfl rfl ?_
      refine r_aload_n hK d_X5_readConditionOn_28 rfl rfl ?_
      refine r_iload_n hK d_X5_readConditionOn_29 rfl rfl ?_
      obtain ⟨u9, e8, hD⟩ := bd0_e hD
      refine r_callV (As := [.int x1]) (st := []) (stk2 := []) hK (hE2 _ _ _ e8) d_X5_readConditionOn_30 mf_X5_readTruthOn ml_RX5_59 im_X5_readTruthOn rfl se_4_RX5_X5_readTruthOn kd_5 rfl (Nat.le_of_ble_eq_true rfl) (by omega) ⟨Nat.zero_le _, Nat.zero_le _⟩ rfl rfl ?_
      refine r_aload_n hK d_X5_readConditionOn_33 rfl rfl ?_
      refine r_bipush hK d_X5_readConditionOn_34 cb_m124 ?_
      obtain ⟨u11, e10, hD⟩ := bd0_e hD
      refine r_callV (As := [.int (-124 : Int32)]) (st := []) (stk2 := []) hK (C_X5_put  e10) d_X5_readConditionOn_36 mf_X5_put ml_RX5_53 im_X5_put rfl se_4_RX5_X5_put kd_5 rfl (Nat.le_of_ble_eq_true rfl) (by omega) ⟨Nat.zero_le _, Nat.zero_le _⟩ rfl rfl ?_
      refine r_iinc hK d_X5_readConditionOn_39 rfl (v := x2 + (1 : Int32)) (by rw [ci_1]) (by decide) (ls2 := [.ref 5, .int x1, .int (x2 + (1 : Int32))]) rfl ?_
      refine r_goto (tgt := 7) hK d_X5_readConditionOn_42 (by decide) ?_
      exact hq7 _ _ _  hD
set_option maxRecDepth 20000 in
theorem TL_X5_readConditionOn_7 {n0 : Nat} {E : Nat → Int32 → gs_M → Option gs_M} (hE0 : ∀ (y0 : Int32) (μ : gs_M) (μ2 : gs_M), E 0 y0 μ = some μ2 → CALL yX5_readUnit cX5_readUnit 3 none (n0 + 10) [.ref 5, .int y0] μ none μ2) (hE1 : ∀ (y0 : Int32) (μ : gs_M) (μ2 : gs_M), E 1 y0 μ = some μ2 → CALL yX5_readConditionOn cX5_readConditionOn 3 none (n0 + 10) [.ref 5, .int y0] μ none μ2) (hE2 : ∀ (y0 : Int32) (μ : gs_M) (μ2 : gs_M), E 2 y0 μ = some μ2 → CALL yX5_readTruthOn cX5_readTruthOn 3 none (n0 + 10) [.ref 5, .int y0] μ none μ2) (hE3 : ∀ (y0 : Int32) (μ : gs_M) (μ2 : gs_M), E 3 y0 μ = some μ2 → CALL yX5_readComparison cX5_readComparison 3 none (n0 + 10) [.ref 5, .int y0] μ none μ2) (hE4 : ∀ (y0 : Int32) (μ : gs_M) (μ2 : gs_M), E 4 y0 μ = some μ2 → CALL yX5_readSum cX5_readSum 4 none (n0 + 10) [.ref 5, .int y0] μ none μ2) (hE5 : ∀ (y0 : Int32) (μ : gs_M) (μ2 : gs_M), E 5 y0 μ = some μ2 → CALL yX5_readTerm cX5_readTerm 4 none (n0 + 10) [.ref 5, .int y0] μ none μ2) (hE6 : ∀ (y0 : Int32) (μ : gs_M) (μ2 : gs_M), E 6 y0 μ = some μ2 → CALL yX5_readAtom cX5_readAtom 3 none (n0 + 10) [.ref 5, .int y0] μ none μ2) (hK : KC p R s m args meth c ad g tyc RX5 cX5_readConditionOn 3 none (n0 + 11)) {μ2 : gs_M}   : ∀ (n : Nat) (x1 : Int32) (x2 : Int32) (μ : gs_M), L_X5_readConditionOn_7 E  n x1 x2 μ = some μ2 → WJ p l e R s m args below meth c 0 0 (MQ below (gs_Q ad g tyc none μ2) args s 0 0 (gs_A ad)) ad g tyc 3 7 [.ref 5, .int x1, .int x2] [] μ := by
  intro n
  induction n with
  | zero => intro x1 x2 μ  hD; cases hD
  | succ n ih => intro x1 x2 μ  hD; exact To_X5_readConditionOn_7 hE0 hE1 hE2 hE3 hE4 hE5 hE6 hK  ih  hD
set_option maxRecDepth 20000 in
theorem C_X5_readConditionOn {n0 : Nat} {E : Nat → Int32 → gs_M → Option gs_M} (hE0 : ∀ (y0 : Int32) (μ : gs_M) (μ2 : gs_M), E 0 y0 μ = some μ2 → CALL yX5_readUnit cX5_readUnit 3 none (n0 + 10) [.ref 5, .int y0] μ none μ2) (hE1 : ∀ (y0 : Int32) (μ : gs_M) (μ2 : gs_M), E 1 y0 μ = some μ2 → CALL yX5_readConditionOn cX5_readConditionOn 3 none (n0 + 10) [.ref 5, .int y0] μ none μ2) (hE2 : ∀ (y0 : Int32) (μ : gs_M) (μ2 : gs_M), E 2 y0 μ = some μ2 → CALL yX5_readTruthOn cX5_readTruthOn 3 none (n0 + 10) [.ref 5, .int y0] μ none μ2) (hE3 : ∀ (y0 : Int32) (μ : gs_M) (μ2 : gs_M), E 3 y0 μ = some μ2 → CALL yX5_readComparison cX5_readComparison 3 none (n0 + 10) [.ref 5, .int y0] μ none μ2) (hE4 : ∀ (y0 : Int32) (μ : gs_M) (μ2 : gs_M), E 4 y0 μ = some μ2 → CALL yX5_readSum cX5_readSum 4 none (n0 + 10) [.ref 5, .int y0] μ none μ2) (hE5 : ∀ (y0 : Int32) (μ : gs_M) (μ2 : gs_M), E 5 y0 μ = some μ2 → CALL yX5_readTerm cX5_readTerm 4 none (n0 + 10) [.ref 5, .int y0] μ none μ2) (hE6 : ∀ (y0 : Int32) (μ : gs_M) (μ2 : gs_M), E 6 y0 μ = some μ2 → CALL yX5_readAtom cX5_readAtom 3 none (n0 + 10) [.ref 5, .int y0] μ none μ2) {x1 : Int32} {μ : gs_M} {μ2 : gs_M}  (hD : O_X5_readConditionOn E x1 μ = some μ2) : CALL yX5_readConditionOn cX5_readConditionOn 3 none (n0 + 11) [.ref 5, .int x1] μ none μ2 := by
  unfold O_X5_readConditionOn at hD
  refine gs_enter mf_X5_readConditionOn (Nat.le_of_ble_eq_true rfl) (ls := [.ref 5, .int x1, gs_J]) rfl (fun p l e R s m args below meth c ad g tyc hK => ?_)
  have hK : KC p R s m args meth c ad g tyc RX5 cX5_readConditionOn 3 none (n0 + 11) := hK
  refine r_aload_n hK d_X5_readConditionOn_0 rfl rfl ?_
  refine r_iload_n hK d_X5_readConditionOn_1 rfl rfl ?_
  obtain ⟨u2, e1, hD⟩ := bd0_e hD
  refine r_callV (As := [.int x1]) (st := []) (stk2 := []) hK (hE2 _ _ _ e1) d_X5_readConditionOn_2 mf_X5_readTruthOn ml_RX5_59 im_X5_readTruthOn rfl se_4_RX5_X5_readTruthOn kd_5 rfl (Nat.le_of_ble_eq_true rfl) (by omega) ⟨Nat.zero_le _, Nat.zero_le _⟩ rfl rfl ?_
  refine r_iconst hK d_X5_readConditionOn_5 ci_0 ?_
  refine r_istore_n hK d_X5_readConditionOn_6 rfl (by decide) (ls2 := [.ref 5, .int x1, .int (0 : Int32)]) rfl ?_
  exact TL_X5_readConditionOn_7 hE0 hE1 hE2 hE3 hE4 hE5 hE6 hK  _ _ _ _  hD
end S_X5_readConditionOn
theorem d_X5_readTruthOn_0 : gd cX5_readTruthOn 0 (.iconst 0) 1 1 := ⟨by decide +kernel, rfl⟩
theorem d_X5_readTruthOn_1 : gd cX5_readTruthOn 1 (.istore_n 2) 1 2 := ⟨by decide +kernel, rfl⟩
theorem d_X5_readTruthOn_2 : gd cX5_readTruthOn 2 (.iload_n 2) 1 3 := ⟨by decide +kernel, rfl⟩
theorem d_X5_readTruthOn_3 : gd cX5_readTruthOn 3 (.sipush 160) 3 6 := ⟨by decide +kernel, rfl⟩
theorem d_X5_readTruthOn_6 : gd cX5_readTruthOn 6 (.if_icmp .ge 29) 3 9 := ⟨by decide +kernel, rfl⟩
theorem d_X5_readTruthOn_9 : gd cX5_readTruthOn 9 (.aload_n 0) 1 10 := ⟨by decide +kernel, rfl⟩
theorem d_X5_readTruthOn_10 : gd cX5_readTruthOn 10 (.bipush 38) 2 12 := ⟨by decide +kernel, rfl⟩
theorem d_X5_readTruthOn_12 : gd cX5_readTruthOn 12 (.invokevirtual 26) 3 15 := ⟨by decide +kernel, rfl⟩
theorem d_X5_readTruthOn_15 : gd cX5_readTruthOn 15 (.ifCond .eq 20) 3 18 := ⟨by decide +kernel, rfl⟩
theorem d_X5_readTruthOn_18 : gd cX5_readTruthOn 18 (.aload_n 0) 1 19 := ⟨by decide +kernel, rfl⟩
theorem d_X5_readTruthOn_19 : gd cX5_readTruthOn 19 (.iload_n 1) 1 20 := ⟨by decide +kernel, rfl⟩
theorem d_X5_readTruthOn_20 : gd cX5_readTruthOn 20 (.invokevirtual 41) 3 23 := ⟨by decide +kernel, rfl⟩
theorem d_X5_readTruthOn_23 : gd cX5_readTruthOn 23 (.aload_n 0) 1 24 := ⟨by decide +kernel, rfl⟩
theorem d_X5_readTruthOn_24 : gd cX5_readTruthOn 24 (.bipush (-38)) 2 26 := ⟨by decide +kernel, rfl⟩
theorem d_X5_readTruthOn_26 : gd cX5_readTruthOn 26 (.invokevirtual 53) 3 29 := ⟨by decide +kernel, rfl⟩
theorem d_X5_readTruthOn_29 : gd cX5_readTruthOn 29 (.iinc 2 1) 3 32 := ⟨by decide +kernel, rfl⟩
theorem d_X5_readTruthOn_32 : gd cX5_readTruthOn 32 (.goto (-30)) 3 35 := ⟨by decide +kernel, rfl⟩
theorem d_X5_readTruthOn_35 : gd cX5_readTruthOn 35 .return_ 1 36 := ⟨by decide +kernel, rfl⟩
def Bo_X5_readTruthOn_2 (E : Nat → Int32 → gs_M → Option gs_M) (q2 : Int32 → Int32 → gs_M → Option (gs_M)) (x1 : Int32) (x2 : Int32) (μ : gs_M) : Option (gs_M) :=
  if (160 : Int32) ≤ x2 then (some μ) else (bd (D_X4_accept 5 (38 : Int32) μ) (fun v4 u3 => if v4 = 0 then (some u3) else (bd0 (E 0 x1 u3) (fun u7 => bd0 (D_X5_put (-38 : Int32) u7) (fun u9 => q2 x1 (x2 + (1 : Int32)) u9)))))
def L_X5_readTruthOn_2 (E : Nat → Int32 → gs_M → Option gs_M)  : Nat → Int32 → Int32 → gs_M → Option (gs_M)
  | 0 => fun _ _ _ => none
  | n + 1 => fun x1 x2 μ => Bo_X5_readTruthOn_2 E  (L_X5_readTruthOn_2 E  n) x1 x2 μ
def O_X5_readTruthOn (E : Nat → Int32 → gs_M → Option gs_M) (x1 : Int32) (μ : gs_M) : Option (gs_M) :=
  L_X5_readTruthOn_2 E 4096 x1 (0 : Int32) μ
section S_X5_readTruthOn
variable {p : Program} {l : Launch} {e : Env} {R : Room} {s : State} {m : MethodId} {args : Array Value} {below : List Frame} {meth : Method} {c : Code} {ad : Nat → Nat} {g : va_G} {tyc : Nat → ClassId}
set_option maxRecDepth 20000 in
theorem To_X5_readTruthOn_2 {n0 : Nat} {E : Nat → Int32 → gs_M → Option gs_M} (hE0 : ∀ (y0 : Int32) (μ : gs_M) (μ2 : gs_M), E 0 y0 μ = some μ2 → CALL yX5_readUnit cX5_readUnit 3 none (n0 + 10) [.ref 5, .int y0] μ none μ2) (hE1 : ∀ (y0 : Int32) (μ : gs_M) (μ2 : gs_M), E 1 y0 μ = some μ2 → CALL yX5_readConditionOn cX5_readConditionOn 3 none (n0 + 10) [.ref 5, .int y0] μ none μ2) (hE2 : ∀ (y0 : Int32) (μ : gs_M) (μ2 : gs_M), E 2 y0 μ = some μ2 → CALL yX5_readTruthOn cX5_readTruthOn 3 none (n0 + 10) [.ref 5, .int y0] μ none μ2) (hE3 : ∀ (y0 : Int32) (μ : gs_M) (μ2 : gs_M), E 3 y0 μ = some μ2 → CALL yX5_readComparison cX5_readComparison 3 none (n0 + 10) [.ref 5, .int y0] μ none μ2) (hE4 : ∀ (y0 : Int32) (μ : gs_M) (μ2 : gs_M), E 4 y0 μ = some μ2 → CALL yX5_readSum cX5_readSum 4 none (n0 + 10) [.ref 5, .int y0] μ none μ2) (hE5 : ∀ (y0 : Int32) (μ : gs_M) (μ2 : gs_M), E 5 y0 μ = some μ2 → CALL yX5_readTerm cX5_readTerm 4 none (n0 + 10) [.ref 5, .int y0] μ none μ2) (hE6 : ∀ (y0 : Int32) (μ : gs_M) (μ2 : gs_M), E 6 y0 μ = some μ2 → CALL yX5_readAtom cX5_readAtom 3 none (n0 + 10) [.ref 5, .int y0] μ none μ2) (hK : KC p R s m args meth c ad g tyc RX5 cX5_readTruthOn 3 none (n0 + 11)) {μ2 : gs_M} {q2 : Int32 → Int32 → gs_M → Option (gs_M)} (hq2 : ∀ (x1 : Int32) (x2 : Int32) (μ : gs_M), q2 x1 x2 μ = some μ2 → WJ p l e R s m args below meth c 0 0 (MQ below (gs_Q ad g tyc none μ2) args s 0 0 (gs_A ad)) ad g tyc 3 2 [.ref 5, .int x1, .int x2] [] μ) {x1 : Int32} {x2 : Int32} {μ : gs_M}  (hD : Bo_X5_readTruthOn_2 E q2 x1 x2 μ = some μ2) : WJ p l e R s m args below meth c 0 0 (MQ below (gs_Q ad g tyc none μ2) args s 0 0 (gs_A ad)) ad g tyc 3 2 [.ref 5, .int x1, .int x2] [] μ := by
  unfold Bo_X5_readTruthOn_2 at hD
  refine r_iload_n hK d_X5_readTruthOn_2 rfl rfl ?_
  refine r_sipush hK d_X5_readTruthOn_3 cs_160 ?_
  refine r_icmp_ge (tgt := 35) hK d_X5_readTruthOn_6 (by decide) (fun h1 => ?_) (fun h1 => ?_)
  · have hD := if_t hD h1
    cases hD
    exact r_vret hK d_X5_readTruthOn_35
  · have hD := if_f hD h1
    refine r_aload_n hK d_X5_readTruthOn_9 rfl rfl ?_
    refine r_bipush hK d_X5_readTruthOn_10 cb_38 ?_
    obtain ⟨v4, u3, e2, hD⟩ := bd_e hD
    refine r_callU (As := [.int (38 : Int32)]) (st := []) (stk2 := [.int v4]) hK (C_X4_accept_4 kd_5 e2) d_X5_readTruthOn_12 mf_X4_accept ml_RX5_26 sm_RX5_X4_accept ⟨rfl, rfl⟩ im_X4_accept rfl se_4_RX5_X4_accept kd_5 rfl (Nat.le_of_ble_eq_true rfl) (by omega) ⟨Nat.zero_le _, Nat.zero_le _⟩ rfl rfl ?_
    refine r_if_eq (tgt := 35) hK d_X5_readTruthOn_15 (by decide) (fun h5 => ?_) (fun h5 => ?_)
    · have hD := if_t hD h5
      cases hD
      exact r_vret hK d_X5_readTruthOn_35
    · have hD := if_f hD h5
      refine r_aload_n hK d_X5_readTruthOn_18 rfl rfl ?_
      refine r_iload_n hK d_X5_readTruthOn_19 rfl rfl ?_
      obtain ⟨u7, e6, hD⟩ := bd0_e hD
      refine r_callV (As := [.int x1]) (st := []) (stk2 := []) hK (hE0 _ _ _ e6) d_X5_readTruthOn_20 mf_X5_readUnit ml_RX5_41 im_X5_readUnit rfl se_4_RX5_X5_readUnit kd_5 rfl (Nat.le_of_ble_eq_true rfl) (by omega) ⟨Nat.zero_le _, Nat.zero_le _⟩ rfl rfl ?_
      refine r_aload_n hK d_X5_readTruthOn_23 rfl rfl ?_
      refine r_bipush hK d_X5_readTruthOn_24 cb_m38 ?_
      obtain ⟨u9, e8, hD⟩ := bd0_e hD
      refine r_callV (As := [.int (-38 : Int32)]) (st := []) (stk2 := []) hK (C_X5_put  e8) d_X5_readTruthOn_26 mf_X5_put ml_RX5_53 im_X5_put rfl se_4_RX5_X5_put kd_5 rfl (Nat.le_of_ble_eq_true rfl) (by omega) ⟨Nat.zero_le _, Nat.zero_le _⟩ rfl rfl ?_
      refine r_iinc hK d_X5_readTruthOn_29 rfl (v := x2 + (1 : Int32)) (by rw [ci_1]) (by decide) (ls2 := [.ref 5, .int x1, .int (x2 + (1 : Int32))]) rfl ?_
      refine r_goto (tgt := 2) hK d_X5_readTruthOn_32 (by decide) ?_
      exact hq2 _ _ _  hD
set_option maxRecDepth 20000 in
theorem TL_X5_readTruthOn_2 {n0 : Nat} {E : Nat → Int32 → gs_M → Option gs_M} (hE0 : ∀ (y0 : Int32) (μ : gs_M) (μ2 : gs_M), E 0 y0 μ = some μ2 → CALL yX5_readUnit cX5_readUnit 3 none (n0 + 10) [.ref 5, .int y0] μ none μ2) (hE1 : ∀ (y0 : Int32) (μ : gs_M) (μ2 : gs_M), E 1 y0 μ = some μ2 → CALL yX5_readConditionOn cX5_readConditionOn 3 none (n0 + 10) [.ref 5, .int y0] μ none μ2) (hE2 : ∀ (y0 : Int32) (μ : gs_M) (μ2 : gs_M), E 2 y0 μ = some μ2 → CALL yX5_readTruthOn cX5_readTruthOn 3 none (n0 + 10) [.ref 5, .int y0] μ none μ2) (hE3 : ∀ (y0 : Int32) (μ : gs_M) (μ2 : gs_M), E 3 y0 μ = some μ2 → CALL yX5_readComparison cX5_readComparison 3 none (n0 + 10) [.ref 5, .int y0] μ none μ2) (hE4 : ∀ (y0 : Int32) (μ : gs_M) (μ2 : gs_M), E 4 y0 μ = some μ2 → CALL yX5_readSum cX5_readSum 4 none (n0 + 10) [.ref 5, .int y0] μ none μ2) (hE5 : ∀ (y0 : Int32) (μ : gs_M) (μ2 : gs_M), E 5 y0 μ = some μ2 → CALL yX5_readTerm cX5_readTerm 4 none (n0 + 10) [.ref 5, .int y0] μ none μ2) (hE6 : ∀ (y0 : Int32) (μ : gs_M) (μ2 : gs_M), E 6 y0 μ = some μ2 → CALL yX5_readAtom cX5_readAtom 3 none (n0 + 10) [.ref 5, .int y0] μ none μ2) (hK : KC p R s m args meth c ad g tyc RX5 cX5_readTruthOn 3 none (n0 + 11)) {μ2 : gs_M}   : ∀ (n : Nat) (x1 : Int32) (x2 : Int32) (μ : gs_M), L_X5_readTruthOn_2 E  n x1 x2 μ = some μ2 → WJ p l e R s m args below meth c 0 0 (MQ below (gs_Q ad g tyc none μ2) args s 0 0 (gs_A ad)) ad g tyc 3 2 [.ref 5, .int x1, .int x2] [] μ := by
  intro n
  induction n with
  | zero => intro x1 x2 μ  hD; cases hD
  | succ n ih => intro x1 x2 μ  hD; exact To_X5_readTruthOn_2 hE0 hE1 hE2 hE3 hE4 hE5 hE6 hK  ih  hD
set_option maxRecDepth 20000 in
theorem C_X5_readTruthOn {n0 : Nat} {E : Nat → Int32 → gs_M → Option gs_M} (hE0 : ∀ (y0 : Int32) (μ : gs_M) (μ2 : gs_M), E 0 y0 μ = some μ2 → CALL yX5_readUnit cX5_readUnit 3 none (n0 + 10) [.ref 5, .int y0] μ none μ2) (hE1 : ∀ (y0 : Int32) (μ : gs_M) (μ2 : gs_M), E 1 y0 μ = some μ2 → CALL yX5_readConditionOn cX5_readConditionOn 3 none (n0 + 10) [.ref 5, .int y0] μ none μ2) (hE2 : ∀ (y0 : Int32) (μ : gs_M) (μ2 : gs_M), E 2 y0 μ = some μ2 → CALL yX5_readTruthOn cX5_readTruthOn 3 none (n0 + 10) [.ref 5, .int y0] μ none μ2) (hE3 : ∀ (y0 : Int32) (μ : gs_M) (μ2 : gs_M), E 3 y0 μ = some μ2 → CALL yX5_readComparison cX5_readComparison 3 none (n0 + 10) [.ref 5, .int y0] μ none μ2) (hE4 : ∀ (y0 : Int32) (μ : gs_M) (μ2 : gs_M), E 4 y0 μ = some μ2 → CALL yX5_readSum cX5_readSum 4 none (n0 + 10) [.ref 5, .int y0] μ none μ2) (hE5 : ∀ (y0 : Int32) (μ : gs_M) (μ2 : gs_M), E 5 y0 μ = some μ2 → CALL yX5_readTerm cX5_readTerm 4 none (n0 + 10) [.ref 5, .int y0] μ none μ2) (hE6 : ∀ (y0 : Int32) (μ : gs_M) (μ2 : gs_M), E 6 y0 μ = some μ2 → CALL yX5_readAtom cX5_readAtom 3 none (n0 + 10) [.ref 5, .int y0] μ none μ2) {x1 : Int32} {μ : gs_M} {μ2 : gs_M}  (hD : O_X5_readTruthOn E x1 μ = some μ2) : CALL yX5_readTruthOn cX5_readTruthOn 3 none (n0 + 11) [.ref 5, .int x1] μ none μ2 := by
  unfold O_X5_readTruthOn at hD
  refine gs_enter mf_X5_readTruthOn (Nat.le_of_ble_eq_true rfl) (ls := [.ref 5, .int x1, gs_J]) rfl (fun p l e R s m args below meth c ad g tyc hK => ?_)
  have hK : KC p R s m args meth c ad g tyc RX5 cX5_readTruthOn 3 none (n0 + 11) := hK
  refine r_iconst hK d_X5_readTruthOn_0 ci_0 ?_
  refine r_istore_n hK d_X5_readTruthOn_1 rfl (by decide) (ls2 := [.ref 5, .int x1, .int (0 : Int32)]) rfl ?_
  exact TL_X5_readTruthOn_2 hE0 hE1 hE2 hE3 hE4 hE5 hE6 hK  _ _ _ _  hD
end S_X5_readTruthOn
theorem d_X5_readComparison_0 : gd cX5_readComparison 0 (.aload_n 0) 1 1 := ⟨by decide +kernel, rfl⟩
theorem d_X5_readComparison_1 : gd cX5_readComparison 1 (.invokevirtual 38) 3 4 := ⟨by decide +kernel, rfl⟩
theorem d_X5_readComparison_4 : gd cX5_readComparison 4 (.istore_n 2) 1 5 := ⟨by decide +kernel, rfl⟩
theorem d_X5_readComparison_5 : gd cX5_readComparison 5 (.aload_n 0) 1 6 := ⟨by decide +kernel, rfl⟩
theorem d_X5_readComparison_6 : gd cX5_readComparison 6 (.invokevirtual 65) 3 9 := ⟨by decide +kernel, rfl⟩
theorem d_X5_readComparison_9 : gd cX5_readComparison 9 (.ifCond .eq 10) 3 12 := ⟨by decide +kernel, rfl⟩
theorem d_X5_readComparison_12 : gd cX5_readComparison 12 (.iload_n 2) 1 13 := ⟨by decide +kernel, rfl⟩
theorem d_X5_readComparison_13 : gd cX5_readComparison 13 (.invokestatic 50) 3 16 := ⟨by decide +kernel, rfl⟩
theorem d_X5_readComparison_16 : gd cX5_readComparison 16 (.ifCond .ne 12) 3 19 := ⟨by decide +kernel, rfl⟩
theorem d_X5_readComparison_19 : gd cX5_readComparison 19 (.aload_n 0) 1 20 := ⟨by decide +kernel, rfl⟩
theorem d_X5_readComparison_20 : gd cX5_readComparison 20 (.aload_n 0) 1 21 := ⟨by decide +kernel, rfl⟩
theorem d_X5_readComparison_21 : gd cX5_readComparison 21 (.getfield 69) 3 24 := ⟨by decide +kernel, rfl⟩
theorem d_X5_readComparison_24 : gd cX5_readComparison 24 (.invokevirtual 72) 3 27 := ⟨by decide +kernel, rfl⟩
theorem d_X5_readComparison_27 : gd cX5_readComparison 27 .return_ 1 28 := ⟨by decide +kernel, rfl⟩
theorem d_X5_readComparison_28 : gd cX5_readComparison 28 (.aload_n 0) 1 29 := ⟨by decide +kernel, rfl⟩
theorem d_X5_readComparison_29 : gd cX5_readComparison 29 .dup 1 30 := ⟨by decide +kernel, rfl⟩
theorem d_X5_readComparison_30 : gd cX5_readComparison 30 (.getfield 69) 3 33 := ⟨by decide +kernel, rfl⟩
theorem d_X5_readComparison_33 : gd cX5_readComparison 33 (.iconst 1) 1 34 := ⟨by decide +kernel, rfl⟩
theorem d_X5_readComparison_34 : gd cX5_readComparison 34 .iadd 1 35 := ⟨by decide +kernel, rfl⟩
theorem d_X5_readComparison_35 : gd cX5_readComparison 35 (.putfield 69) 3 38 := ⟨by decide +kernel, rfl⟩
theorem d_X5_readComparison_38 : gd cX5_readComparison 38 (.aload_n 0) 1 39 := ⟨by decide +kernel, rfl⟩
theorem d_X5_readComparison_39 : gd cX5_readComparison 39 (.iload_n 1) 1 40 := ⟨by decide +kernel, rfl⟩
theorem d_X5_readComparison_40 : gd cX5_readComparison 40 (.invokevirtual 47) 3 43 := ⟨by decide +kernel, rfl⟩
theorem d_X5_readComparison_43 : gd cX5_readComparison 43 (.aload_n 0) 1 44 := ⟨by decide +kernel, rfl⟩
theorem d_X5_readComparison_44 : gd cX5_readComparison 44 (.iload_n 2) 1 45 := ⟨by decide +kernel, rfl⟩
theorem d_X5_readComparison_45 : gd cX5_readComparison 45 .ineg 1 46 := ⟨by decide +kernel, rfl⟩
theorem d_X5_readComparison_46 : gd cX5_readComparison 46 (.invokevirtual 53) 3 49 := ⟨by decide +kernel, rfl⟩
theorem d_X5_readComparison_49 : gd cX5_readComparison 49 .return_ 1 50 := ⟨by decide +kernel, rfl⟩
def B_X5_readComparison_19 (E : Nat → Int32 → gs_M → Option gs_M)   (μ : gs_M) : Option (gs_M) :=
  bd0 (D_X4_failAt 5 (gI μ 5 1) μ) (fun u2 => some u2)
def O_X5_readComparison (E : Nat → Int32 → gs_M → Option gs_M) (x1 : Int32) (μ : gs_M) : Option (gs_M) :=
  bd (D_X4_next 5 μ) (fun v3 u2 => bd (D_X4_isSound 5 u2) (fun v6 u5 => if v6 = 0 then (B_X5_readComparison_19 E u5) else (bd (D_X5_isComparison v3 u5) (fun v10 u9 => if v10 = 0 then (B_X5_readComparison_19 E u9) else (lt1 (sI u9 5 1 ((gI u9 5 1) + (1 : Int32))) (fun u12 => bd0 (E 4 x1 u12) (fun u14 => bd0 (D_X5_put (-v3) u14) (fun u16 => some u16))))))))
section S_X5_readComparison
variable {p : Program} {l : Launch} {e : Env} {R : Room} {s : State} {m : MethodId} {args : Array Value} {below : List Frame} {meth : Method} {c : Code} {ad : Nat → Nat} {g : va_G} {tyc : Nat → ClassId}
set_option maxRecDepth 20000 in
theorem T_X5_readComparison_19 {n0 : Nat} {E : Nat → Int32 → gs_M → Option gs_M} (hE0 : ∀ (y0 : Int32) (μ : gs_M) (μ2 : gs_M), E 0 y0 μ = some μ2 → CALL yX5_readUnit cX5_readUnit 3 none (n0 + 10) [.ref 5, .int y0] μ none μ2) (hE1 : ∀ (y0 : Int32) (μ : gs_M) (μ2 : gs_M), E 1 y0 μ = some μ2 → CALL yX5_readConditionOn cX5_readConditionOn 3 none (n0 + 10) [.ref 5, .int y0] μ none μ2) (hE2 : ∀ (y0 : Int32) (μ : gs_M) (μ2 : gs_M), E 2 y0 μ = some μ2 → CALL yX5_readTruthOn cX5_readTruthOn 3 none (n0 + 10) [.ref 5, .int y0] μ none μ2) (hE3 : ∀ (y0 : Int32) (μ : gs_M) (μ2 : gs_M), E 3 y0 μ = some μ2 → CALL yX5_readComparison cX5_readComparison 3 none (n0 + 10) [.ref 5, .int y0] μ none μ2) (hE4 : ∀ (y0 : Int32) (μ : gs_M) (μ2 : gs_M), E 4 y0 μ = some μ2 → CALL yX5_readSum cX5_readSum 4 none (n0 + 10) [.ref 5, .int y0] μ none μ2) (hE5 : ∀ (y0 : Int32) (μ : gs_M) (μ2 : gs_M), E 5 y0 μ = some μ2 → CALL yX5_readTerm cX5_readTerm 4 none (n0 + 10) [.ref 5, .int y0] μ none μ2) (hE6 : ∀ (y0 : Int32) (μ : gs_M) (μ2 : gs_M), E 6 y0 μ = some μ2 → CALL yX5_readAtom cX5_readAtom 3 none (n0 + 10) [.ref 5, .int y0] μ none μ2) (hK : KC p R s m args meth c ad g tyc RX5 cX5_readComparison 3 none (n0 + 11)) {μ2 : gs_M}    {μ : gs_M}  (hD : B_X5_readComparison_19 E   μ = some μ2) : WJ p l e R s m args below meth c 0 0 (MQ below (gs_Q ad g tyc none μ2) args s 0 0 (gs_A ad)) ad g tyc 3 19 [.ref 5, gs_J, gs_J] [] μ := by
  unfold B_X5_readComparison_19 at hD
  refine r_aload_n hK d_X5_readComparison_19 rfl rfl ?_
  refine r_aload_n hK d_X5_readComparison_20 rfl rfl ?_
  refine r_getI hK d_X5_readComparison_21 fl_RX5_69_4 rfl kd_5 ?_
  obtain ⟨u2, e1, hD⟩ := bd0_e hD
  refine r_callU (As := [.int (gI μ 5 1)]) (st := []) (stk2 := []) hK (C_X4_failAt_4 kd_5 e1) d_X5_readComparison_24 mf_X4_failAt ml_RX5_72 sm_RX5_X4_failAt ⟨rfl, rfl⟩ im_X4_failAt rfl se_4_RX5_X4_failAt kd_5 rfl (Nat.le_of_ble_eq_true rfl) (by omega) ⟨Nat.zero_le _, Nat.zero_le _⟩ rfl rfl ?_
  cases hD
  exact r_vret hK d_X5_readComparison_27
set_option maxRecDepth 20000 in
theorem C_X5_readComparison {n0 : Nat} {E : Nat → Int32 → gs_M → Option gs_M} (hE0 : ∀ (y0 : Int32) (μ : gs_M) (μ2 : gs_M), E 0 y0 μ = some μ2 → CALL yX5_readUnit cX5_readUnit 3 none (n0 + 10) [.ref 5, .int y0] μ none μ2) (hE1 : ∀ (y0 : Int32) (μ : gs_M) (μ2 : gs_M), E 1 y0 μ = some μ2 → CALL yX5_readConditionOn cX5_readConditionOn 3 none (n0 + 10) [.ref 5, .int y0] μ none μ2) (hE2 : ∀ (y0 : Int32) (μ : gs_M) (μ2 : gs_M), E 2 y0 μ = some μ2 → CALL yX5_readTruthOn cX5_readTruthOn 3 none (n0 + 10) [.ref 5, .int y0] μ none μ2) (hE3 : ∀ (y0 : Int32) (μ : gs_M) (μ2 : gs_M), E 3 y0 μ = some μ2 → CALL yX5_readComparison cX5_readComparison 3 none (n0 + 10) [.ref 5, .int y0] μ none μ2) (hE4 : ∀ (y0 : Int32) (μ : gs_M) (μ2 : gs_M), E 4 y0 μ = some μ2 → CALL yX5_readSum cX5_readSum 4 none (n0 + 10) [.ref 5, .int y0] μ none μ2) (hE5 : ∀ (y0 : Int32) (μ : gs_M) (μ2 : gs_M), E 5 y0 μ = some μ2 → CALL yX5_readTerm cX5_readTerm 4 none (n0 + 10) [.ref 5, .int y0] μ none μ2) (hE6 : ∀ (y0 : Int32) (μ : gs_M) (μ2 : gs_M), E 6 y0 μ = some μ2 → CALL yX5_readAtom cX5_readAtom 3 none (n0 + 10) [.ref 5, .int y0] μ none μ2) {x1 : Int32} {μ : gs_M} {μ2 : gs_M}  (hD : O_X5_readComparison E x1 μ = some μ2) : CALL yX5_readComparison cX5_readComparison 3 none (n0 + 11) [.ref 5, .int x1] μ none μ2 := by
  unfold O_X5_readComparison at hD
  refine gs_enter mf_X5_readComparison (Nat.le_of_ble_eq_true rfl) (ls := [.ref 5, .int x1, gs_J]) rfl (fun p l e R s m args below meth c ad g tyc hK => ?_)
  have hK : KC p R s m args meth c ad g tyc RX5 cX5_readComparison 3 none (n0 + 11) := hK
  refine r_aload_n hK d_X5_readComparison_0 rfl rfl ?_
  obtain ⟨v3, u2, e1, hD⟩ := bd_e hD
  refine r_callU (As := []) (st := []) (stk2 := [.int v3]) hK (C_X4_next_4 kd_5 e1) d_X5_readComparison_1 mf_X4_next ml_RX5_38 sm_RX5_X4_next ⟨rfl, rfl⟩ im_X4_next rfl se_4_RX5_X4_next kd_5 rfl (Nat.le_of_ble_eq_true rfl) (by omega) ⟨Nat.zero_le _, Nat.zero_le _⟩ rfl rfl ?_
  refine r_istore_n hK d_X5_readComparison_4 rfl (by decide) (ls2 := [.ref 5, .int x1, .int v3]) rfl ?_
  refine r_aload_n hK d_X5_readComparison_5 rfl rfl ?_
  obtain ⟨v6, u5, e4, hD⟩ := bd_e hD
  refine r_callU (As := []) (st := []) (stk2 := [.int v6]) hK (C_X4_isSound_4 kd_5 e4) d_X5_readComparison_6 mf_X4_isSound ml_RX5_65 sm_RX5_X4_isSound ⟨rfl, rfl⟩ im_X4_isSound rfl se_4_RX5_X4_isSound kd_5 rfl (Nat.le_of_ble_eq_true rfl) (by omega) ⟨Nat.zero_le _, Nat.zero_le _⟩ rfl rfl ?_
  refine r_if_eq (tgt := 19) hK d_X5_readComparison_9 (by decide) (fun h7 => ?_) (fun h7 => ?_)
  · have hD := if_t hD h7
    refine r_junk [true, false, false] (ls2 := [.ref 5, gs_J, gs_J]) rfl ?_
    exact T_X5_readComparison_19 hE0 hE1 hE2 hE3 hE4 hE5 hE6 hK   hD
  · have hD := if_f hD h7
    refine r_iload_n hK d_X5_readComparison_12 rfl rfl ?_
    obtain ⟨v10, u9, e8, hD⟩ := bd_e hD
    refine r_callS (As := [.int v3]) (st := []) (stk2 := [.int v10]) hK (C_X5_isComparison  e8) d_X5_readComparison_13 mf_X5_isComparison ml_RX5_50 ss_X5_isComparison rfl (Nat.le_of_ble_eq_true rfl) (by omega) ⟨Nat.zero_le _, Nat.zero_le _⟩ rfl rfl ?_
    refine r_if_ne (tgt := 28) hK d_X5_readComparison_16 (by decide) (fun h11 => ?_) (fun h11 => ?_)
    · have hD := if_f hD h11
      refine r_aload_n hK d_X5_readComparison_28 rfl rfl ?_
      refine r_dup hK d_X5_readComparison_29 rfl ?_
      refine r_getI hK d_X5_readComparison_30 fl_RX5_69_4 rfl kd_5 ?_
      refine r_iconst hK d_X5_readComparison_33 ci_1 ?_
      refine r_iadd hK d_X5_readComparison_34 ?_
      refine r_putI hK d_X5_readComparison_35 fl_RX5_69_4 rfl rfl kd_5 ?_
      refine r_ltm hD (fun u12 hD => ?_)
      refine r_aload_n hK d_X5_readComparison_38 rfl rfl ?_
      refine r_iload_n hK d_X5_readComparison_39 rfl rfl ?_
      obtain ⟨u14, e13, hD⟩ := bd0_e hD
      refine r_callV (As := [.int x1]) (st := []) (stk2 := []) hK (hE4 _ _ _ e13) d_X5_readComparison_40 mf_X5_readSum ml_RX5_47 im_X5_readSum rfl se_4_RX5_X5_readSum kd_5 rfl (Nat.le_of_ble_eq_true rfl) (by omega) ⟨Nat.zero_le _, Nat.zero_le _⟩ rfl rfl ?_
      refine r_aload_n hK d_X5_readComparison_43 rfl rfl ?_
      refine r_iload_n hK d_X5_readComparison_44 rfl rfl ?_
      refine r_ineg hK d_X5_readComparison_45 ?_
      obtain ⟨u16, e15, hD⟩ := bd0_e hD
      refine r_callV (As := [.int (-v3)]) (st := []) (stk2 := []) hK (C_X5_put  e15) d_X5_readComparison_46 mf_X5_put ml_RX5_53 im_X5_put rfl se_4_RX5_X5_put kd_5 rfl (Nat.le_of_ble_eq_true rfl) (by omega) ⟨Nat.zero_le _, Nat.zero_le _⟩ rfl rfl ?_
      cases hD
      exact r_vret hK d_X5_readComparison_49
    · have hD := if_t hD h11
      refine r_junk [true, false, false] (ls2 := [.ref 5, gs_J, gs_J]) rfl ?_
      exact T_X5_readComparison_19 hE0 hE1 hE2 hE3 hE4 hE5 hE6 hK   hD
end S_X5_readComparison
theorem d_X5_readSum_0 : gd cX5_readSum 0 (.aload_n 0) 1 1 := ⟨by decide +kernel, rfl⟩
theorem d_X5_readSum_1 : gd cX5_readSum 1 (.iload_n 1) 1 2 := ⟨by decide +kernel, rfl⟩
theorem d_X5_readSum_2 : gd cX5_readSum 2 (.invokevirtual 75) 3 5 := ⟨by decide +kernel, rfl⟩
theorem d_X5_readSum_5 : gd cX5_readSum 5 (.iconst 0) 1 6 := ⟨by decide +kernel, rfl⟩
theorem d_X5_readSum_6 : gd cX5_readSum 6 (.istore_n 2) 1 7 := ⟨by decide +kernel, rfl⟩
theorem d_X5_readSum_7 : gd cX5_readSum 7 (.iload_n 2) 1 8 := ⟨by decide +kernel, rfl⟩
theorem d_X5_readSum_8 : gd cX5_readSum 8 (.sipush 160) 3 11 := ⟨by decide +kernel, rfl⟩
theorem d_X5_readSum_11 : gd cX5_readSum 11 (.if_icmp .ge 60) 3 14 := ⟨by decide +kernel, rfl⟩
theorem d_X5_readSum_14 : gd cX5_readSum 14 (.aload_n 0) 1 15 := ⟨by decide +kernel, rfl⟩
theorem d_X5_readSum_15 : gd cX5_readSum 15 (.invokevirtual 65) 3 18 := ⟨by decide +kernel, rfl⟩
theorem d_X5_readSum_18 : gd cX5_readSum 18 (.ifCond .eq 53) 3 21 := ⟨by decide +kernel, rfl⟩
theorem d_X5_readSum_21 : gd cX5_readSum 21 (.aload_n 0) 1 22 := ⟨by decide +kernel, rfl⟩
theorem d_X5_readSum_22 : gd cX5_readSum 22 (.invokevirtual 38) 3 25 := ⟨by decide +kernel, rfl⟩
theorem d_X5_readSum_25 : gd cX5_readSum 25 (.bipush 43) 2 27 := ⟨by decide +kernel, rfl⟩
theorem d_X5_readSum_27 : gd cX5_readSum 27 (.if_icmp .eq 12) 3 30 := ⟨by decide +kernel, rfl⟩
theorem d_X5_readSum_30 : gd cX5_readSum 30 (.aload_n 0) 1 31 := ⟨by decide +kernel, rfl⟩
theorem d_X5_readSum_31 : gd cX5_readSum 31 (.invokevirtual 38) 3 34 := ⟨by decide +kernel, rfl⟩
theorem d_X5_readSum_34 : gd cX5_readSum 34 (.bipush 45) 2 36 := ⟨by decide +kernel, rfl⟩
theorem d_X5_readSum_36 : gd cX5_readSum 36 (.if_icmp .ne 35) 3 39 := ⟨by decide +kernel, rfl⟩
theorem d_X5_readSum_39 : gd cX5_readSum 39 (.aload_n 0) 1 40 := ⟨by decide +kernel, rfl⟩
theorem d_X5_readSum_40 : gd cX5_readSum 40 (.invokevirtual 38) 3 43 := ⟨by decide +kernel, rfl⟩
theorem d_X5_readSum_43 : gd cX5_readSum 43 (.istore_n 3) 1 44 := ⟨by decide +kernel, rfl⟩
theorem d_X5_readSum_44 : gd cX5_readSum 44 (.aload_n 0) 1 45 := ⟨by decide +kernel, rfl⟩
theorem d_X5_readSum_45 : gd cX5_readSum 45 .dup 1 46 := ⟨by decide +kernel, rfl⟩
theorem d_X5_readSum_46 : gd cX5_readSum 46 (.getfield 69) 3 49 := ⟨by decide +kernel, rfl⟩
theorem d_X5_readSum_49 : gd cX5_readSum 49 (.iconst 1) 1 50 := ⟨by decide +kernel, rfl⟩
theorem d_X5_readSum_50 : gd cX5_readSum 50 .iadd 1 51 := ⟨by decide +kernel, rfl⟩
theorem d_X5_readSum_51 : gd cX5_readSum 51 (.putfield 69) 3 54 := ⟨by decide +kernel, rfl⟩
theorem d_X5_readSum_54 : gd cX5_readSum 54 (.aload_n 0) 1 55 := ⟨by decide +kernel, rfl⟩
theorem d_X5_readSum_55 : gd cX5_readSum 55 (.iload_n 1) 1 56 := ⟨by decide +kernel, rfl⟩
theorem d_X5_readSum_56 : gd cX5_readSum 56 (.invokevirtual 75) 3 59 := ⟨by decide +kernel, rfl⟩
theorem d_X5_readSum_59 : gd cX5_readSum 59 (.aload_n 0) 1 60 := ⟨by decide +kernel, rfl⟩
theorem d_X5_readSum_60 : gd cX5_readSum 60 (.iload_n 3) 1 61 := ⟨by decide +kernel, rfl⟩
theorem d_X5_readSum_61 : gd cX5_readSum 61 .ineg 1 62 := ⟨by decide +kernel, rfl⟩
theorem d_X5_readSum_62 : gd cX5_readSum 62 (.invokevirtual 53) 3 65 := ⟨by decide +kernel, rfl⟩
theorem d_X5_readSum_65 : gd cX5_readSum 65 (.iinc 2 1) 3 68 := ⟨by decide +kernel, rfl⟩
theorem d_X5_readSum_68 : gd cX5_readSum 68 (.goto (-61)) 3 71 := ⟨by decide +kernel, rfl⟩
theorem d_X5_readSum_71 : gd cX5_readSum 71 .return_ 1 72 := ⟨by decide +kernel, rfl⟩
def B_X5_readSum_39 (E : Nat → Int32 → gs_M → Option gs_M) (q7 : Int32 → Int32 → gs_M → Option (gs_M)) (x1 : Int32) (x2 : Int32) (μ : gs_M) : Option (gs_M) :=
  bd (D_X4_next 5 μ) (fun v3 u2 => lt1 (sI u2 5 1 ((gI u2 5 1) + (1 : Int32))) (fun u4 => bd0 (E 5 x1 u4) (fun u6 => bd0 (D_X5_put (-v3) u6) (fun u8 => q7 x1 (x2 + (1 : Int32)) u8))))
def Bo_X5_readSum_7 (E : Nat → Int32 → gs_M → Option gs_M) (q7 : Int32 → Int32 → gs_M → Option (gs_M)) (x1 : Int32) (x2 : Int32) (μ : gs_M) : Option (gs_M) :=
  if (160 : Int32) ≤ x2 then (some μ) else (bd (D_X4_isSound 5 μ) (fun v4 u3 => if v4 = 0 then (some u3) else (bd (D_X4_next 5 u3) (fun v8 u7 => if v8 = (43 : Int32) then (B_X5_readSum_39 E q7 x1 x2 u7) else (bd (D_X4_next 5 u7) (fun v12 u11 => if v12 = (45 : Int32) then (B_X5_readSum_39 E q7 x1 x2 u11) else (some u11)))))))
def L_X5_readSum_7 (E : Nat → Int32 → gs_M → Option gs_M)  : Nat → Int32 → Int32 → gs_M → Option (gs_M)
  | 0 => fun _ _ _ => none
  | n + 1 => fun x1 x2 μ => Bo_X5_readSum_7 E  (L_X5_readSum_7 E  n) x1 x2 μ
def O_X5_readSum (E : Nat → Int32 → gs_M → Option gs_M) (x1 : Int32) (μ : gs_M) : Option (gs_M) :=
  bd0 (E 5 x1 μ) (fun u2 => L_X5_readSum_7 E 4096 x1 (0 : Int32) u2)
section S_X5_readSum
variable {p : Program} {l : Launch} {e : Env} {R : Room} {s : State} {m : MethodId} {args : Array Value} {below : List Frame} {meth : Method} {c : Code} {ad : Nat → Nat} {g : va_G} {tyc : Nat → ClassId}
set_option maxRecDepth 20000 in
theorem T_X5_readSum_39 {n0 : Nat} {E : Nat → Int32 → gs_M → Option gs_M} (hE0 : ∀ (y0 : Int32) (μ : gs_M) (μ2 : gs_M), E 0 y0 μ = some μ2 → CALL yX5_readUnit cX5_readUnit 3 none (n0 + 10) [.ref 5, .int y0] μ none μ2) (hE1 : ∀ (y0 : Int32) (μ : gs_M) (μ2 : gs_M), E 1 y0 μ = some μ2 → CALL yX5_readConditionOn cX5_readConditionOn 3 none (n0 + 10) [.ref 5, .int y0] μ none μ2) (hE2 : ∀ (y0 : Int32) (μ : gs_M) (μ2 : gs_M), E 2 y0 μ = some μ2 → CALL yX5_readTruthOn cX5_readTruthOn 3 none (n0 + 10) [.ref 5, .int y0] μ none μ2) (hE3 : ∀ (y0 : Int32) (μ : gs_M) (μ2 : gs_M), E 3 y0 μ = some μ2 → CALL yX5_readComparison cX5_readComparison 3 none (n0 + 10) [.ref 5, .int y0] μ none μ2) (hE4 : ∀ (y0 : Int32) (μ : gs_M) (μ2 : gs_M), E 4 y0 μ = some μ2 → CALL yX5_readSum cX5_readSum 4 none (n0 + 10) [.ref 5, .int y0] μ none μ2) (hE5 : ∀ (y0 : Int32) (μ : gs_M) (μ2 : gs_M), E 5 y0 μ = some μ2 → CALL yX5_readTerm cX5_readTerm 4 none (n0 + 10) [.ref 5, .int y0] μ none μ2) (hE6 : ∀ (y0 : Int32) (μ : gs_M) (μ2 : gs_M), E 6 y0 μ = some μ2 → CALL yX5_readAtom cX5_readAtom 3 none (n0 + 10) [.ref 5, .int y0] μ none μ2) (hK : KC p R s m args meth c ad g tyc RX5 cX5_readSum 4 none (n0 + 11)) {μ2 : gs_M} {q7 : Int32 → Int32 → gs_M → Option (gs_M)} (hq7 : ∀ (x1 : Int32) (x2 : Int32) (μ : gs_M), q7 x1 x2 μ = some μ2 → WJ p l e R s m args below meth c 0 0 (MQ below (gs_Q ad g tyc none μ2) args s 0 0 (gs_A ad)) ad g tyc 4 7 [.ref 5, .int x1, .int x2, gs_J] [] μ) {x1 : Int32} {x2 : Int32} {μ : gs_M}  (hD : B_X5_readSum_39 E q7 x1 x2 μ = some μ2) : WJ p l e R s m args below meth c 0 0 (MQ below (gs_Q ad g tyc none μ2) args s 0 0 (gs_A ad)) ad g tyc 4 39 [.ref 5, .int x1, .int x2, gs_J] [] μ := by
  unfold B_X5_readSum_39 at hD
  refine r_aload_n hK d_X5_readSum_39 rfl rfl ?_
  obtain ⟨v3, u2, e1, hD⟩ := bd_e hD
  refine r_callU (As := []) (st := []) (stk2 := [.int v3]) hK (C_X4_next_4 kd_5 e1) d_X5_readSum_40 mf_X4_next ml_RX5_38 sm_RX5_X4_next ⟨rfl, rfl⟩ im_X4_next rfl se_4_RX5_X4_next kd_5 rfl (Nat.le_of_ble_eq_true rfl) (by omega) ⟨Nat.zero_le _, Nat.zero_le _⟩ rfl rfl ?_
  refine r_istore_n hK d_X5_readSum_43 rfl (by decide) (ls2 := [.ref 5, .int x1, .int x2, .int v3]) rfl ?_
  refine r_aload_n hK d_X5_readSum_44 rfl rfl ?_
  refine r_dup hK d_X5_readSum_45 rfl ?_
  refine r_getI hK d_X5_readSum_46 fl_RX5_69_4 rfl kd_5 ?_
  refine r_iconst hK d_X5_readSum_49 ci_1 ?_
  refine r_iadd hK d_X5_readSum_50 ?_
  refine r_putI hK d_X5_readSum_51 fl_RX5_69_4 rfl rfl kd_5 ?_
  refine r_ltm hD (fun u4 hD => ?_)
  refine r_aload_n hK d_X5_readSum_54 rfl rfl ?_
  refine r_iload_n hK d_X5_readSum_55 rfl rfl ?_
  obtain ⟨u6, e5, hD⟩ := bd0_e hD
  refine r_callV (As := [.int x1]) (st := []) (stk2 := []) hK (hE5 _ _ _ e5) d_X5_readSum_56 mf_X5_readTerm ml_RX5_75 im_X5_readTerm rfl se_4_RX5_X5_readTerm kd_5 rfl (Nat.le_of_ble_eq_true rfl) (by omega) ⟨Nat.zero_le _, Nat.zero_le _⟩ rfl rfl ?_
  refine r_aload_n hK d_X5_readSum_59 rfl rfl ?_
  refine r_iload_n hK d_X5_readSum_60 rfl rfl ?_
  refine r_ineg hK d_X5_readSum_61 ?_
  obtain ⟨u8, e7, hD⟩ := bd0_e hD
  refine r_callV (As := [.int (-v3)]) (st := []) (stk2 := []) hK (C_X5_put  e7) d_X5_readSum_62 mf_X5_put ml_RX5_53 im_X5_put rfl se_4_RX5_X5_put kd_5 rfl (Nat.le_of_ble_eq_true rfl) (by omega) ⟨Nat.zero_le _, Nat.zero_le _⟩ rfl rfl ?_
  refine r_iinc hK d_X5_readSum_65 rfl (v := x2 + (1 : Int32)) (by rw [ci_1]) (by decide) (ls2 := [.ref 5, .int x1, .int (x2 + (1 : Int32)), .int v3]) rfl ?_
  refine r_goto (tgt := 7) hK d_X5_readSum_68 (by decide) ?_
  refine r_junk [true, true, true, false] (ls2 := [.ref 5, .int x1, .int (x2 + (1 : Int32)), gs_J]) rfl ?_
  exact hq7 _ _ _  hD
set_option maxRecDepth 20000 in
theorem To_X5_readSum_7 {n0 : Nat} {E : Nat → Int32 → gs_M → Option gs_M} (hE0 : ∀ (y0 : Int32) (μ : gs_M) (μ2 : gs_M), E 0 y0 μ = some μ2 → CALL yX5_readUnit cX5_readUnit 3 none (n0 + 10) [.ref 5, .int y0] μ none μ2) (hE1 : ∀ (y0 : Int32) (μ : gs_M) (μ2 : gs_M), E 1 y0 μ = some μ2 → CALL yX5_readConditionOn cX5_readConditionOn 3 none (n0 + 10) [.ref 5, .int y0] μ none μ2) (hE2 : ∀ (y0 : Int32) (μ : gs_M) (μ2 : gs_M), E 2 y0 μ = some μ2 → CALL yX5_readTruthOn cX5_readTruthOn 3 none (n0 + 10) [.ref 5, .int y0] μ none μ2) (hE3 : ∀ (y0 : Int32) (μ : gs_M) (μ2 : gs_M), E 3 y0 μ = some μ2 → CALL yX5_readComparison cX5_readComparison 3 none (n0 + 10) [.ref 5, .int y0] μ none μ2) (hE4 : ∀ (y0 : Int32) (μ : gs_M) (μ2 : gs_M), E 4 y0 μ = some μ2 → CALL yX5_readSum cX5_readSum 4 none (n0 + 10) [.ref 5, .int y0] μ none μ2) (hE5 : ∀ (y0 : Int32) (μ : gs_M) (μ2 : gs_M), E 5 y0 μ = some μ2 → CALL yX5_readTerm cX5_readTerm 4 none (n0 + 10) [.ref 5, .int y0] μ none μ2) (hE6 : ∀ (y0 : Int32) (μ : gs_M) (μ2 : gs_M), E 6 y0 μ = some μ2 → CALL yX5_readAtom cX5_readAtom 3 none (n0 + 10) [.ref 5, .int y0] μ none μ2) (hK : KC p R s m args meth c ad g tyc RX5 cX5_readSum 4 none (n0 + 11)) {μ2 : gs_M} {q7 : Int32 → Int32 → gs_M → Option (gs_M)} (hq7 : ∀ (x1 : Int32) (x2 : Int32) (μ : gs_M), q7 x1 x2 μ = some μ2 → WJ p l e R s m args below meth c 0 0 (MQ below (gs_Q ad g tyc none μ2) args s 0 0 (gs_A ad)) ad g tyc 4 7 [.ref 5, .int x1, .int x2, gs_J] [] μ) {x1 : Int32} {x2 : Int32} {μ : gs_M}  (hD : Bo_X5_readSum_7 E q7 x1 x2 μ = some μ2) : WJ p l e R s m args below meth c 0 0 (MQ below (gs_Q ad g tyc none μ2) args s 0 0 (gs_A ad)) ad g tyc 4 7 [.ref 5, .int x1, .int x2, gs_J] [] μ := by
  unfold Bo_X5_readSum_7 at hD
  refine r_iload_n hK d_X5_readSum_7 rfl rfl ?_
  refine r_sipush hK d_X5_readSum_8 cs_160 ?_
  refine r_icmp_ge (tgt := 71) hK d_X5_readSum_11 (by decide) (fun h1 => ?_) (fun h1 => ?_)
  · have hD := if_t hD h1
    cases hD
    exact r_vret hK d_X5_readSum_71
  · have hD := if_f hD h1
    refine r_aload_n hK d_X5_readSum_14 rfl rfl ?_
    obtain ⟨v4, u3, e2, hD⟩ := bd_e hD
    refine r_callU (As := []) (st := []) (stk2 := [.int v4]) hK (C_X4_isSound_4 kd_5 e2) d_X5_readSum_15 mf_X4_isSound ml_RX5_65 sm_RX5_X4_isSound ⟨rfl, rfl⟩ im_X4_isSound rfl se_4_RX5_X4_isSound kd_5 rfl (Nat.le_of_ble_eq_true rfl) (by omega) ⟨Nat.zero_le _, Nat.zero_le _⟩ rfl rfl ?_
    refine r_if_eq (tgt := 71) hK d_X5_readSum_18 (by decide) (fun h5 => ?_) (fun h5 => ?_)
    · have hD := if_t hD h5
      cases hD
      exact r_vret hK d_X5_readSum_71
    · have hD := if_f hD h5
      refine r_aload_n hK d_X5_readSum_21 rfl rfl ?_
      obtain ⟨v8, u7, e6, hD⟩ := bd_e hD
      refine r_callU (As := []) (st := []) (stk2 := [.int v8]) hK (C_X4_next_4 kd_5 e6) d_X5_readSum_22 mf_X4_next ml_RX5_38 sm_RX5_X4_next ⟨rfl, rfl⟩ im_X4_next rfl se_4_RX5_X4_next kd_5 rfl (Nat.le_of_ble_eq_true rfl) (by omega) ⟨Nat.zero_le _, Nat.zero_le _⟩ rfl rfl ?_
      refine r_bipush hK d_X5_readSum_25 cb_43 ?_
      refine r_icmp_eq (tgt := 39) hK d_X5_readSum_27 (by decide) (fun h9 => ?_) (fun h9 => ?_)
      · have hD := if_t hD h9
        exact T_X5_readSum_39 hE0 hE1 hE2 hE3 hE4 hE5 hE6 hK hq7  hD
      · have hD := if_f hD h9
        refine r_aload_n hK d_X5_readSum_30 rfl rfl ?_
        obtain ⟨v12, u11, e10, hD⟩ := bd_e hD
        refine r_callU (As := []) (st := []) (stk2 := [.int v12]) hK (C_X4_next_4 kd_5 e10) d_X5_readSum_31 mf_X4_next ml_RX5_38 sm_RX5_X4_next ⟨rfl, rfl⟩ im_X4_next rfl se_4_RX5_X4_next kd_5 rfl (Nat.le_of_ble_eq_true rfl) (by omega) ⟨Nat.zero_le _, Nat.zero_le _⟩ rfl rfl ?_
        refine r_bipush hK d_X5_readSum_34 cb_45 ?_
        refine r_icmp_ne (tgt := 71) hK d_X5_readSum_36 (by decide) (fun h13 => ?_) (fun h13 => ?_)
        · have hD := if_f hD h13
          cases hD
          exact r_vret hK d_X5_readSum_71
        · have hD := if_t hD h13
          exact T_X5_readSum_39 hE0 hE1 hE2 hE3 hE4 hE5 hE6 hK hq7  hD
set_option maxRecDepth 20000 in
theorem TL_X5_readSum_7 {n0 : Nat} {E : Nat → Int32 → gs_M → Option gs_M} (hE0 : ∀ (y0 : Int32) (μ : gs_M) (μ2 : gs_M), E 0 y0 μ = some μ2 → CALL yX5_readUnit cX5_readUnit 3 none (n0 + 10) [.ref 5, .int y0] μ none μ2) (hE1 : ∀ (y0 : Int32) (μ : gs_M) (μ2 : gs_M), E 1 y0 μ = some μ2 → CALL yX5_readConditionOn cX5_readConditionOn 3 none (n0 + 10) [.ref 5, .int y0] μ none μ2) (hE2 : ∀ (y0 : Int32) (μ : gs_M) (μ2 : gs_M), E 2 y0 μ = some μ2 → CALL yX5_readTruthOn cX5_readTruthOn 3 none (n0 + 10) [.ref 5, .int y0] μ none μ2) (hE3 : ∀ (y0 : Int32) (μ : gs_M) (μ2 : gs_M), E 3 y0 μ = some μ2 → CALL yX5_readComparison cX5_readComparison 3 none (n0 + 10) [.ref 5, .int y0] μ none μ2) (hE4 : ∀ (y0 : Int32) (μ : gs_M) (μ2 : gs_M), E 4 y0 μ = some μ2 → CALL yX5_readSum cX5_readSum 4 none (n0 + 10) [.ref 5, .int y0] μ none μ2) (hE5 : ∀ (y0 : Int32) (μ : gs_M) (μ2 : gs_M), E 5 y0 μ = some μ2 → CALL yX5_readTerm cX5_readTerm 4 none (n0 + 10) [.ref 5, .int y0] μ none μ2) (hE6 : ∀ (y0 : Int32) (μ : gs_M) (μ2 : gs_M), E 6 y0 μ = some μ2 → CALL yX5_readAtom cX5_readAtom 3 none (n0 + 10) [.ref 5, .int y0] μ none μ2) (hK : KC p R s m args meth c ad g tyc RX5 cX5_readSum 4 none (n0 + 11)) {μ2 : gs_M}   : ∀ (n : Nat) (x1 : Int32) (x2 : Int32) (μ : gs_M), L_X5_readSum_7 E  n x1 x2 μ = some μ2 → WJ p l e R s m args below meth c 0 0 (MQ below (gs_Q ad g tyc none μ2) args s 0 0 (gs_A ad)) ad g tyc 4 7 [.ref 5, .int x1, .int x2, gs_J] [] μ := by
  intro n
  induction n with
  | zero => intro x1 x2 μ  hD; cases hD
  | succ n ih => intro x1 x2 μ  hD; exact To_X5_readSum_7 hE0 hE1 hE2 hE3 hE4 hE5 hE6 hK  ih  hD
set_option maxRecDepth 20000 in
theorem C_X5_readSum {n0 : Nat} {E : Nat → Int32 → gs_M → Option gs_M} (hE0 : ∀ (y0 : Int32) (μ : gs_M) (μ2 : gs_M), E 0 y0 μ = some μ2 → CALL yX5_readUnit cX5_readUnit 3 none (n0 + 10) [.ref 5, .int y0] μ none μ2) (hE1 : ∀ (y0 : Int32) (μ : gs_M) (μ2 : gs_M), E 1 y0 μ = some μ2 → CALL yX5_readConditionOn cX5_readConditionOn 3 none (n0 + 10) [.ref 5, .int y0] μ none μ2) (hE2 : ∀ (y0 : Int32) (μ : gs_M) (μ2 : gs_M), E 2 y0 μ = some μ2 → CALL yX5_readTruthOn cX5_readTruthOn 3 none (n0 + 10) [.ref 5, .int y0] μ none μ2) (hE3 : ∀ (y0 : Int32) (μ : gs_M) (μ2 : gs_M), E 3 y0 μ = some μ2 → CALL yX5_readComparison cX5_readComparison 3 none (n0 + 10) [.ref 5, .int y0] μ none μ2) (hE4 : ∀ (y0 : Int32) (μ : gs_M) (μ2 : gs_M), E 4 y0 μ = some μ2 → CALL yX5_readSum cX5_readSum 4 none (n0 + 10) [.ref 5, .int y0] μ none μ2) (hE5 : ∀ (y0 : Int32) (μ : gs_M) (μ2 : gs_M), E 5 y0 μ = some μ2 → CALL yX5_readTerm cX5_readTerm 4 none (n0 + 10) [.ref 5, .int y0] μ none μ2) (hE6 : ∀ (y0 : Int32) (μ : gs_M) (μ2 : gs_M), E 6 y0 μ = some μ2 → CALL yX5_readAtom cX5_readAtom 3 none (n0 + 10) [.ref 5, .int y0] μ none μ2) {x1 : Int32} {μ : gs_M} {μ2 : gs_M}  (hD : O_X5_readSum E x1 μ = some μ2) : CALL yX5_readSum cX5_readSum 4 none (n0 + 11) [.ref 5, .int x1] μ none μ2 := by
  unfold O_X5_readSum at hD
  refine gs_enter mf_X5_readSum (Nat.le_of_ble_eq_true rfl) (ls := [.ref 5, .int x1, gs_J, gs_J]) rfl (fun p l e R s m args below meth c ad g tyc hK => ?_)
  have hK : KC p R s m args meth c ad g tyc RX5 cX5_readSum 4 none (n0 + 11) := hK
  refine r_aload_n hK d_X5_readSum_0 rfl rfl ?_
  refine r_iload_n hK d_X5_readSum_1 rfl rfl ?_
  obtain ⟨u2, e1, hD⟩ := bd0_e hD
  refine r_callV (As := [.int x1]) (st := []) (stk2 := []) hK (hE5 _ _ _ e1) d_X5_readSum_2 mf_X5_readTerm ml_RX5_75 im_X5_readTerm rfl se_4_RX5_X5_readTerm kd_5 rfl (Nat.le_of_ble_eq_true rfl) (by omega) ⟨Nat.zero_le _, Nat.zero_le _⟩ rfl rfl ?_
  refine r_iconst hK d_X5_readSum_5 ci_0 ?_
  refine r_istore_n hK d_X5_readSum_6 rfl (by decide) (ls2 := [.ref 5, .int x1, .int (0 : Int32), gs_J]) rfl ?_
  exact TL_X5_readSum_7 hE0 hE1 hE2 hE3 hE4 hE5 hE6 hK  _ _ _ _  hD
end S_X5_readSum
theorem d_X5_readTerm_0 : gd cX5_readTerm 0 (.aload_n 0) 1 1 := ⟨by decide +kernel, rfl⟩
theorem d_X5_readTerm_1 : gd cX5_readTerm 1 (.iload_n 1) 1 2 := ⟨by decide +kernel, rfl⟩
theorem d_X5_readTerm_2 : gd cX5_readTerm 2 (.invokevirtual 78) 3 5 := ⟨by decide +kernel, rfl⟩
theorem d_X5_readTerm_5 : gd cX5_readTerm 5 (.iconst 0) 1 6 := ⟨by decide +kernel, rfl⟩
theorem d_X5_readTerm_6 : gd cX5_readTerm 6 (.istore_n 2) 1 7 := ⟨by decide +kernel, rfl⟩
theorem d_X5_readTerm_7 : gd cX5_readTerm 7 (.iload_n 2) 1 8 := ⟨by decide +kernel, rfl⟩
theorem d_X5_readTerm_8 : gd cX5_readTerm 8 (.sipush 160) 3 11 := ⟨by decide +kernel, rfl⟩
theorem d_X5_readTerm_11 : gd cX5_readTerm 11 (.if_icmp .ge 60) 3 14 := ⟨by decide +kernel, rfl⟩
theorem d_X5_readTerm_14 : gd cX5_readTerm 14 (.aload_n 0) 1 15 := ⟨by decide +kernel, rfl⟩
theorem d_X5_readTerm_15 : gd cX5_readTerm 15 (.invokevirtual 65) 3 18 := ⟨by decide +kernel, rfl⟩
theorem d_X5_readTerm_18 : gd cX5_readTerm 18 (.ifCond .eq 53) 3 21 := ⟨by decide +kernel, rfl⟩
theorem d_X5_readTerm_21 : gd cX5_readTerm 21 (.aload_n 0) 1 22 := ⟨by decide +kernel, rfl⟩
theorem d_X5_readTerm_22 : gd cX5_readTerm 22 (.invokevirtual 38) 3 25 := ⟨by decide +kernel, rfl⟩
theorem d_X5_readTerm_25 : gd cX5_readTerm 25 (.bipush 42) 2 27 := ⟨by decide +kernel, rfl⟩
theorem d_X5_readTerm_27 : gd cX5_readTerm 27 (.if_icmp .eq 12) 3 30 := ⟨by decide +kernel, rfl⟩
theorem d_X5_readTerm_30 : gd cX5_readTerm 30 (.aload_n 0) 1 31 := ⟨by decide +kernel, rfl⟩
theorem d_X5_readTerm_31 : gd cX5_readTerm 31 (.invokevirtual 38) 3 34 := ⟨by decide +kernel, rfl⟩
theorem d_X5_readTerm_34 : gd cX5_readTerm 34 (.bipush 47) 2 36 := ⟨by decide +kernel, rfl⟩
theorem d_X5_readTerm_36 : gd cX5_readTerm 36 (.if_icmp .ne 35) 3 39 := ⟨by decide +kernel, rfl⟩
theorem d_X5_readTerm_39 : gd cX5_readTerm 39 (.aload_n 0) 1 40 := ⟨by decide +kernel, rfl⟩
theorem d_X5_readTerm_40 : gd cX5_readTerm 40 (.invokevirtual 38) 3 43 := ⟨by decide +kernel, rfl⟩
theorem d_X5_readTerm_43 : gd cX5_readTerm 43 (.istore_n 3) 1 44 := ⟨by decide +kernel, rfl⟩
theorem d_X5_readTerm_44 : gd cX5_readTerm 44 (.aload_n 0) 1 45 := ⟨by decide +kernel, rfl⟩
theorem d_X5_readTerm_45 : gd cX5_readTerm 45 .dup 1 46 := ⟨by decide +kernel, rfl⟩
theorem d_X5_readTerm_46 : gd cX5_readTerm 46 (.getfield 69) 3 49 := ⟨by decide +kernel, rfl⟩
theorem d_X5_readTerm_49 : gd cX5_readTerm 49 (.iconst 1) 1 50 := ⟨by decide +kernel, rfl⟩
theorem d_X5_readTerm_50 : gd cX5_readTerm 50 .iadd 1 51 := ⟨by decide +kernel, rfl⟩
theorem d_X5_readTerm_51 : gd cX5_readTerm 51 (.putfield 69) 3 54 := ⟨by decide +kernel, rfl⟩
theorem d_X5_readTerm_54 : gd cX5_readTerm 54 (.aload_n 0) 1 55 := ⟨by decide +kernel, rfl⟩
theorem d_X5_readTerm_55 : gd cX5_readTerm 55 (.iload_n 1) 1 56 := ⟨by decide +kernel, rfl⟩
theorem d_X5_readTerm_56 : gd cX5_readTerm 56 (.invokevirtual 78) 3 59 := ⟨by decide +kernel, rfl⟩
theorem d_X5_readTerm_59 : gd cX5_readTerm 59 (.aload_n 0) 1 60 := ⟨by decide +kernel, rfl⟩
theorem d_X5_readTerm_60 : gd cX5_readTerm 60 (.iload_n 3) 1 61 := ⟨by decide +kernel, rfl⟩
theorem d_X5_readTerm_61 : gd cX5_readTerm 61 .ineg 1 62 := ⟨by decide +kernel, rfl⟩
theorem d_X5_readTerm_62 : gd cX5_readTerm 62 (.invokevirtual 53) 3 65 := ⟨by decide +kernel, rfl⟩
theorem d_X5_readTerm_65 : gd cX5_readTerm 65 (.iinc 2 1) 3 68 := ⟨by decide +kernel, rfl⟩
theorem d_X5_readTerm_68 : gd cX5_readTerm 68 (.goto (-61)) 3 71 := ⟨by decide +kernel, rfl⟩
theorem d_X5_readTerm_71 : gd cX5_readTerm 71 .return_ 1 72 := ⟨by decide +kernel, rfl⟩
def B_X5_readTerm_39 (E : Nat → Int32 → gs_M → Option gs_M) (q7 : Int32 → Int32 → gs_M → Option (gs_M)) (x1 : Int32) (x2 : Int32) (μ : gs_M) : Option (gs_M) :=
  bd (D_X4_next 5 μ) (fun v3 u2 => lt1 (sI u2 5 1 ((gI u2 5 1) + (1 : Int32))) (fun u4 => bd0 (E 6 x1 u4) (fun u6 => bd0 (D_X5_put (-v3) u6) (fun u8 => q7 x1 (x2 + (1 : Int32)) u8))))
def Bo_X5_readTerm_7 (E : Nat → Int32 → gs_M → Option gs_M) (q7 : Int32 → Int32 → gs_M → Option (gs_M)) (x1 : Int32) (x2 : Int32) (μ : gs_M) : Option (gs_M) :=
  if (160 : Int32) ≤ x2 then (some μ) else (bd (D_X4_isSound 5 μ) (fun v4 u3 => if v4 = 0 then (some u3) else (bd (D_X4_next 5 u3) (fun v8 u7 => if v8 = (42 : Int32) then (B_X5_readTerm_39 E q7 x1 x2 u7) else (bd (D_X4_next 5 u7) (fun v12 u11 => if v12 = (47 : Int32) then (B_X5_readTerm_39 E q7 x1 x2 u11) else (some u11)))))))
def L_X5_readTerm_7 (E : Nat → Int32 → gs_M → Option gs_M)  : Nat → Int32 → Int32 → gs_M → Option (gs_M)
  | 0 => fun _ _ _ => none
  | n + 1 => fun x1 x2 μ => Bo_X5_readTerm_7 E  (L_X5_readTerm_7 E  n) x1 x2 μ
def O_X5_readTerm (E : Nat → Int32 → gs_M → Option gs_M) (x1 : Int32) (μ : gs_M) : Option (gs_M) :=
  bd0 (E 6 x1 μ) (fun u2 => L_X5_readTerm_7 E 4096 x1 (0 : Int32) u2)
section S_X5_readTerm
variable {p : Program} {l : Launch} {e : Env} {R : Room} {s : State} {m : MethodId} {args : Array Value} {below : List Frame} {meth : Method} {c : Code} {ad : Nat → Nat} {g : va_G} {tyc : Nat → ClassId}
set_option maxRecDepth 20000 in
theorem T_X5_readTerm_39 {n0 : Nat} {E : Nat → Int32 → gs_M → Option gs_M} (hE0 : ∀ (y0 : Int32) (μ : gs_M) (μ2 : gs_M), E 0 y0 μ = some μ2 → CALL yX5_readUnit cX5_readUnit 3 none (n0 + 10) [.ref 5, .int y0] μ none μ2) (hE1 : ∀ (y0 : Int32) (μ : gs_M) (μ2 : gs_M), E 1 y0 μ = some μ2 → CALL yX5_readConditionOn cX5_readConditionOn 3 none (n0 + 10) [.ref 5, .int y0] μ none μ2) (hE2 : ∀ (y0 : Int32) (μ : gs_M) (μ2 : gs_M), E 2 y0 μ = some μ2 → CALL yX5_readTruthOn cX5_readTruthOn 3 none (n0 + 10) [.ref 5, .int y0] μ none μ2) (hE3 : ∀ (y0 : Int32) (μ : gs_M) (μ2 : gs_M), E 3 y0 μ = some μ2 → CALL yX5_readComparison cX5_readComparison 3 none (n0 + 10) [.ref 5, .int y0] μ none μ2) (hE4 : ∀ (y0 : Int32) (μ : gs_M) (μ2 : gs_M), E 4 y0 μ = some μ2 → CALL yX5_readSum cX5_readSum 4 none (n0 + 10) [.ref 5, .int y0] μ none μ2) (hE5 : ∀ (y0 : Int32) (μ : gs_M) (μ2 : gs_M), E 5 y0 μ = some μ2 → CALL yX5_readTerm cX5_readTerm 4 none (n0 + 10) [.ref 5, .int y0] μ none μ2) (hE6 : ∀ (y0 : Int32) (μ : gs_M) (μ2 : gs_M), E 6 y0 μ = some μ2 → CALL yX5_readAtom cX5_readAtom 3 none (n0 + 10) [.ref 5, .int y0] μ none μ2) (hK : KC p R s m args meth c ad g tyc RX5 cX5_readTerm 4 none (n0 + 11)) {μ2 : gs_M} {q7 : Int32 → Int32 → gs_M → Option (gs_M)} (hq7 : ∀ (x1 : Int32) (x2 : Int32) (μ : gs_M), q7 x1 x2 μ = some μ2 → WJ p l e R s m args below meth c 0 0 (MQ below (gs_Q ad g tyc none μ2) args s 0 0 (gs_A ad)) ad g tyc 4 7 [.ref 5, .int x1, .int x2, gs_J] [] μ) {x1 : Int32} {x2 : Int32} {μ : gs_M}  (hD : B_X5_readTerm_39 E q7 x1 x2 μ = some μ2) : WJ p l e R s m args below meth c 0 0 (MQ below (gs_Q ad g tyc none μ2) args s 0 0 (gs_A ad)) ad g tyc 4 39 [.ref 5, .int x1, .int x2, gs_J] [] μ := by
  unfold B_X5_readTerm_39 at hD
  refine r_aload_n hK d_X5_readTerm_39 rfl rfl ?_
  obtain ⟨v3, u2, e1, hD⟩ := bd_e hD
  refine r_callU (As := []) (st := []) (stk2 := [.int v3]) hK (C_X4_next_4 kd_5 e1) d_X5_readTerm_40 mf_X4_next ml_RX5_38 sm_RX5_X4_next ⟨rfl, rfl⟩ im_X4_next rfl se_4_RX5_X4_next kd_5 rfl (Nat.le_of_ble_eq_true rfl) (by omega) ⟨Nat.zero_le _, Nat.zero_le _⟩ rfl rfl ?_
  refine r_istore_n hK d_X5_readTerm_43 rfl (by decide) (ls2 := [.ref 5, .int x1, .int x2, .int v3]) rfl ?_
  refine r_aload_n hK d_X5_readTerm_44 rfl rfl ?_
  refine r_dup hK d_X5_readTerm_45 rfl ?_
  refine r_getI hK d_X5_readTerm_46 fl_RX5_69_4 rfl kd_5 ?_
  refine r_iconst hK d_X5_readTerm_49 ci_1 ?_
  refine r_iadd hK d_X5_readTerm_50 ?_
  refine r_putI hK d_X5_readTerm_51 fl_RX5_69_4 rfl rfl kd_5 ?_
  refine r_ltm hD (fun u4 hD => ?_)
  refine r_aload_n hK d_X5_readTerm_54 rfl rfl ?_
  refine r_iload_n hK d_X5_readTerm_55 rfl rfl ?_
  obtain ⟨u6, e5, hD⟩ := bd0_e hD
  refine r_callV (As := [.int x1]) (st := []) (stk2 := []) hK (hE6 _ _ _ e5) d_X5_readTerm_56 mf_X5_readAtom ml_RX5_78 im_X5_readAtom rfl se_4_RX5_X5_readAtom kd_5 rfl (Nat.le_of_ble_eq_true rfl) (by omega) ⟨Nat.zero_le _, Nat.zero_le _⟩ rfl rfl ?_
  refine r_aload_n hK d_X5_readTerm_59 rfl rfl ?_
  refine r_iload_n hK d_X5_readTerm_60 rfl rfl ?_
  refine r_ineg hK d_X5_readTerm_61 ?_
  obtain ⟨u8, e7, hD⟩ := bd0_e hD
  refine r_callV (As := [.int (-v3)]) (st := []) (stk2 := []) hK (C_X5_put  e7) d_X5_readTerm_62 mf_X5_put ml_RX5_53 im_X5_put rfl se_4_RX5_X5_put kd_5 rfl (Nat.le_of_ble_eq_true rfl) (by omega) ⟨Nat.zero_le _, Nat.zero_le _⟩ rfl rfl ?_
  refine r_iinc hK d_X5_readTerm_65 rfl (v := x2 + (1 : Int32)) (by rw [ci_1]) (by decide) (ls2 := [.ref 5, .int x1, .int (x2 + (1 : Int32)), .int v3]) rfl ?_
  refine r_goto (tgt := 7) hK d_X5_readTerm_68 (by decide) ?_
  refine r_junk [true, true, true, false] (ls2 := [.ref 5, .int x1, .int (x2 + (1 : Int32)), gs_J]) rfl ?_
  exact hq7 _ _ _  hD
set_option maxRecDepth 20000 in
theorem To_X5_readTerm_7 {n0 : Nat} {E : Nat → Int32 → gs_M → Option gs_M} (hE0 : ∀ (y0 : Int32) (μ : gs_M) (μ2 : gs_M), E 0 y0 μ = some μ2 → CALL yX5_readUnit cX5_readUnit 3 none (n0 + 10) [.ref 5, .int y0] μ none μ2) (hE1 : ∀ (y0 : Int32) (μ : gs_M) (μ2 : gs_M), E 1 y0 μ = some μ2 → CALL yX5_readConditionOn cX5_readConditionOn 3 none (n0 + 10) [.ref 5, .int y0] μ none μ2) (hE2 : ∀ (y0 : Int32) (μ : gs_M) (μ2 : gs_M), E 2 y0 μ = some μ2 → CALL yX5_readTruthOn cX5_readTruthOn 3 none (n0 + 10) [.ref 5, .int y0] μ none μ2) (hE3 : ∀ (y0 : Int32) (μ : gs_M) (μ2 : gs_M), E 3 y0 μ = some μ2 → CALL yX5_readComparison cX5_readComparison 3 none (n0 + 10) [.ref 5, .int y0] μ none μ2) (hE4 : ∀ (y0 : Int32) (μ : gs_M) (μ2 : gs_M), E 4 y0 μ = some μ2 → CALL yX5_readSum cX5_readSum 4 none (n0 + 10) [.ref 5, .int y0] μ none μ2) (hE5 : ∀ (y0 : Int32) (μ : gs_M) (μ2 : gs_M), E 5 y0 μ = some μ2 → CALL yX5_readTerm cX5_readTerm 4 none (n0 + 10) [.ref 5, .int y0] μ none μ2) (hE6 : ∀ (y0 : Int32) (μ : gs_M) (μ2 : gs_M), E 6 y0 μ = some μ2 → CALL yX5_readAtom cX5_readAtom 3 none (n0 + 10) [.ref 5, .int y0] μ none μ2) (hK : KC p R s m args meth c ad g tyc RX5 cX5_readTerm 4 none (n0 + 11)) {μ2 : gs_M} {q7 : Int32 → Int32 → gs_M → Option (gs_M)} (hq7 : ∀ (x1 : Int32) (x2 : Int32) (μ : gs_M), q7 x1 x2 μ = some μ2 → WJ p l e R s m args below meth c 0 0 (MQ below (gs_Q ad g tyc none μ2) args s 0 0 (gs_A ad)) ad g tyc 4 7 [.ref 5, .int x1, .int x2, gs_J] [] μ) {x1 : Int32} {x2 : Int32} {μ : gs_M}  (hD : Bo_X5_readTerm_7 E q7 x1 x2 μ = some μ2) : WJ p l e R s m args below meth c 0 0 (MQ below (gs_Q ad g tyc none μ2) args s 0 0 (gs_A ad)) ad g tyc 4 7 [.ref 5, .int x1, .int x2, gs_J] [] μ := by
  unfold Bo_X5_readTerm_7 at hD
  refine r_iload_n hK d_X5_readTerm_7 rfl rfl ?_
  refine r_sipush hK d_X5_readTerm_8 cs_160 ?_
  refine r_icmp_ge (tgt := 71) hK d_X5_readTerm_11 (by decide) (fun h1 => ?_) (fun h1 => ?_)
  · have hD := if_t hD h1
    cases hD
    exact r_vret hK d_X5_readTerm_71
  · have hD := if_f hD h1
    refine r_aload_n hK d_X5_readTerm_14 rfl rfl ?_
    obtain ⟨v4, u3, e2, hD⟩ := bd_e hD
    refine r_callU (As := []) (st := []) (stk2 := [.int v4]) hK (C_X4_isSound_4 kd_5 e2) d_X5_readTerm_15 mf_X4_isSound ml_RX5_65 sm_RX5_X4_isSound ⟨rfl, rfl⟩ im_X4_isSound rfl se_4_RX5_X4_isSound kd_5 rfl (Nat.le_of_ble_eq_true rfl) (by omega) ⟨Nat.zero_le _, Nat.zero_le _⟩ rfl rfl ?_
    refine r_if_eq (tgt := 71) hK d_X5_readTerm_18 (by decide) (fun h5 => ?_) (fun h5 => ?_)
    · have hD := if_t hD h5
      cases hD
      exact r_vret hK d_X5_readTerm_71
    · have hD := if_f hD h5
      refine r_aload_n hK d_X5_readTerm_21 rfl rfl ?_
      obtain ⟨v8, u7, e6, hD⟩ := bd_e hD
      refine r_callU (As := []) (st := []) (stk2 := [.int v8]) hK (C_X4_next_4 kd_5 e6) d_X5_readTerm_22 mf_X4_next ml_RX5_38 sm_RX5_X4_next ⟨rfl, rfl⟩ im_X4_next rfl se_4_RX5_X4_next kd_5 rfl (Nat.le_of_ble_eq_true rfl) (by omega) ⟨Nat.zero_le _, Nat.zero_le _⟩ rfl rfl ?_
      refine r_bipush hK d_X5_readTerm_25 cb_42 ?_
      refine r_icmp_eq (tgt := 39) hK d_X5_readTerm_27 (by decide) (fun h9 => ?_) (fun h9 => ?_)
      · have hD := if_t hD h9
        exact T_X5_readTerm_39 hE0 hE1 hE2 hE3 hE4 hE5 hE6 hK hq7  hD
      · have hD := if_f hD h9
        refine r_aload_n hK d_X5_readTerm_30 rfl rfl ?_
        obtain ⟨v12, u11, e10, hD⟩ := bd_e hD
        refine r_callU (As := []) (st := []) (stk2 := [.int v12]) hK (C_X4_next_4 kd_5 e10) d_X5_readTerm_31 mf_X4_next ml_RX5_38 sm_RX5_X4_next ⟨rfl, rfl⟩ im_X4_next rfl se_4_RX5_X4_next kd_5 rfl (Nat.le_of_ble_eq_true rfl) (by omega) ⟨Nat.zero_le _, Nat.zero_le _⟩ rfl rfl ?_
        refine r_bipush hK d_X5_readTerm_34 cb_47 ?_
        refine r_icmp_ne (tgt := 71) hK d_X5_readTerm_36 (by decide) (fun h13 => ?_) (fun h13 => ?_)
        · have hD := if_f hD h13
          cases hD
          exact r_vret hK d_X5_readTerm_71
        · have hD := if_t hD h13
          exact T_X5_readTerm_39 hE0 hE1 hE2 hE3 hE4 hE5 hE6 hK hq7  hD
set_option maxRecDepth 20000 in
theorem TL_X5_readTerm_7 {n0 : Nat} {E : Nat → Int32 → gs_M → Option gs_M} (hE0 : ∀ (y0 : Int32) (μ : gs_M) (μ2 : gs_M), E 0 y0 μ = some μ2 → CALL yX5_readUnit cX5_readUnit 3 none (n0 + 10) [.ref 5, .int y0] μ none μ2) (hE1 : ∀ (y0 : Int32) (μ : gs_M) (μ2 : gs_M), E 1 y0 μ = some μ2 → CALL yX5_readConditionOn cX5_readConditionOn 3 none (n0 + 10) [.ref 5, .int y0] μ none μ2) (hE2 : ∀ (y0 : Int32) (μ : gs_M) (μ2 : gs_M), E 2 y0 μ = some μ2 → CALL yX5_readTruthOn cX5_readTruthOn 3 none (n0 + 10) [.ref 5, .int y0] μ none μ2) (hE3 : ∀ (y0 : Int32) (μ : gs_M) (μ2 : gs_M), E 3 y0 μ = some μ2 → CALL yX5_readComparison cX5_readComparison 3 none (n0 + 10) [.ref 5, .int y0] μ none μ2) (hE4 : ∀ (y0 : Int32) (μ : gs_M) (μ2 : gs_M), E 4 y0 μ = some μ2 → CALL yX5_readSum cX5_readSum 4 none (n0 + 10) [.ref 5, .int y0] μ none μ2) (hE5 : ∀ (y0 : Int32) (μ : gs_M) (μ2 : gs_M), E 5 y0 μ = some μ2 → CALL yX5_readTerm cX5_readTerm 4 none (n0 + 10) [.ref 5, .int y0] μ none μ2) (hE6 : ∀ (y0 : Int32) (μ : gs_M) (μ2 : gs_M), E 6 y0 μ = some μ2 → CALL yX5_readAtom cX5_readAtom 3 none (n0 + 10) [.ref 5, .int y0] μ none μ2) (hK : KC p R s m args meth c ad g tyc RX5 cX5_readTerm 4 none (n0 + 11)) {μ2 : gs_M}   : ∀ (n : Nat) (x1 : Int32) (x2 : Int32) (μ : gs_M), L_X5_readTerm_7 E  n x1 x2 μ = some μ2 → WJ p l e R s m args below meth c 0 0 (MQ below (gs_Q ad g tyc none μ2) args s 0 0 (gs_A ad)) ad g tyc 4 7 [.ref 5, .int x1, .int x2, gs_J] [] μ := by
  intro n
  induction n with
  | zero => intro x1 x2 μ  hD; cases hD
  | succ n ih => intro x1 x2 μ  hD; exact To_X5_readTerm_7 hE0 hE1 hE2 hE3 hE4 hE5 hE6 hK  ih  hD
set_option maxRecDepth 20000 in
theorem C_X5_readTerm {n0 : Nat} {E : Nat → Int32 → gs_M → Option gs_M} (hE0 : ∀ (y0 : Int32) (μ : gs_M) (μ2 : gs_M), E 0 y0 μ = some μ2 → CALL yX5_readUnit cX5_readUnit 3 none (n0 + 10) [.ref 5, .int y0] μ none μ2) (hE1 : ∀ (y0 : Int32) (μ : gs_M) (μ2 : gs_M), E 1 y0 μ = some μ2 → CALL yX5_readConditionOn cX5_readConditionOn 3 none (n0 + 10) [.ref 5, .int y0] μ none μ2) (hE2 : ∀ (y0 : Int32) (μ : gs_M) (μ2 : gs_M), E 2 y0 μ = some μ2 → CALL yX5_readTruthOn cX5_readTruthOn 3 none (n0 + 10) [.ref 5, .int y0] μ none μ2) (hE3 : ∀ (y0 : Int32) (μ : gs_M) (μ2 : gs_M), E 3 y0 μ = some μ2 → CALL yX5_readComparison cX5_readComparison 3 none (n0 + 10) [.ref 5, .int y0] μ none μ2) (hE4 : ∀ (y0 : Int32) (μ : gs_M) (μ2 : gs_M), E 4 y0 μ = some μ2 → CALL yX5_readSum cX5_readSum 4 none (n0 + 10) [.ref 5, .int y0] μ none μ2) (hE5 : ∀ (y0 : Int32) (μ : gs_M) (μ2 : gs_M), E 5 y0 μ = some μ2 → CALL yX5_readTerm cX5_readTerm 4 none (n0 + 10) [.ref 5, .int y0] μ none μ2) (hE6 : ∀ (y0 : Int32) (μ : gs_M) (μ2 : gs_M), E 6 y0 μ = some μ2 → CALL yX5_readAtom cX5_readAtom 3 none (n0 + 10) [.ref 5, .int y0] μ none μ2) {x1 : Int32} {μ : gs_M} {μ2 : gs_M}  (hD : O_X5_readTerm E x1 μ = some μ2) : CALL yX5_readTerm cX5_readTerm 4 none (n0 + 11) [.ref 5, .int x1] μ none μ2 := by
  unfold O_X5_readTerm at hD
  refine gs_enter mf_X5_readTerm (Nat.le_of_ble_eq_true rfl) (ls := [.ref 5, .int x1, gs_J, gs_J]) rfl (fun p l e R s m args below meth c ad g tyc hK => ?_)
  have hK : KC p R s m args meth c ad g tyc RX5 cX5_readTerm 4 none (n0 + 11) := hK
  refine r_aload_n hK d_X5_readTerm_0 rfl rfl ?_
  refine r_iload_n hK d_X5_readTerm_1 rfl rfl ?_
  obtain ⟨u2, e1, hD⟩ := bd0_e hD
  refine r_callV (As := [.int x1]) (st := []) (stk2 := []) hK (hE6 _ _ _ e1) d_X5_readTerm_2 mf_X5_readAtom ml_RX5_78 im_X5_readAtom rfl se_4_RX5_X5_readAtom kd_5 rfl (Nat.le_of_ble_eq_true rfl) (by omega) ⟨Nat.zero_le _, Nat.zero_le _⟩ rfl rfl ?_
  refine r_iconst hK d_X5_readTerm_5 ci_0 ?_
  refine r_istore_n hK d_X5_readTerm_6 rfl (by decide) (ls2 := [.ref 5, .int x1, .int (0 : Int32), gs_J]) rfl ?_
  exact TL_X5_readTerm_7 hE0 hE1 hE2 hE3 hE4 hE5 hE6 hK  _ _ _ _  hD
end S_X5_readTerm
theorem d_X5_readAtom_0 : gd cX5_readAtom 0 (.aload_n 0) 1 1 := ⟨by decide +kernel, rfl⟩
theorem d_X5_readAtom_1 : gd cX5_readAtom 1 (.invokevirtual 38) 3 4 := ⟨by decide +kernel, rfl⟩
theorem d_X5_readAtom_4 : gd cX5_readAtom 4 (.istore_n 2) 1 5 := ⟨by decide +kernel, rfl⟩
theorem d_X5_readAtom_5 : gd cX5_readAtom 5 (.iload_n 2) 1 6 := ⟨by decide +kernel, rfl⟩
theorem d_X5_readAtom_6 : gd cX5_readAtom 6 (.bipush 48) 2 8 := ⟨by decide +kernel, rfl⟩
theorem d_X5_readAtom_8 : gd cX5_readAtom 8 (.bipush 57) 2 10 := ⟨by decide +kernel, rfl⟩
theorem d_X5_readAtom_10 : gd cX5_readAtom 10 (.invokestatic 81) 3 13 := ⟨by decide +kernel, rfl⟩
theorem d_X5_readAtom_13 : gd cX5_readAtom 13 (.ifCond .eq 15) 3 16 := ⟨by decide +kernel, rfl⟩
theorem d_X5_readAtom_16 : gd cX5_readAtom 16 (.aload_n 0) 1 17 := ⟨by decide +kernel, rfl⟩
theorem d_X5_readAtom_17 : gd cX5_readAtom 17 (.aload_n 0) 1 18 := ⟨by decide +kernel, rfl⟩
theorem d_X5_readAtom_18 : gd cX5_readAtom 18 (.iconst 4) 1 19 := ⟨by decide +kernel, rfl⟩
theorem d_X5_readAtom_19 : gd cX5_readAtom 19 (.invokevirtual 85) 3 22 := ⟨by decide +kernel, rfl⟩
theorem d_X5_readAtom_22 : gd cX5_readAtom 22 (.invokevirtual 53) 3 25 := ⟨by decide +kernel, rfl⟩
theorem d_X5_readAtom_25 : gd cX5_readAtom 25 (.goto 68) 3 28 := ⟨by decide +kernel, rfl⟩
theorem d_X5_readAtom_28 : gd cX5_readAtom 28 (.iload_n 2) 1 29 := ⟨by decide +kernel, rfl⟩
theorem d_X5_readAtom_29 : gd cX5_readAtom 29 (.invokestatic 89) 3 32 := ⟨by decide +kernel, rfl⟩
theorem d_X5_readAtom_32 : gd cX5_readAtom 32 (.iconst (-1)) 1 33 := ⟨by decide +kernel, rfl⟩
theorem d_X5_readAtom_33 : gd cX5_readAtom 33 (.if_icmp .eq 22) 3 36 := ⟨by decide +kernel, rfl⟩
theorem d_X5_readAtom_36 : gd cX5_readAtom 36 (.aload_n 0) 1 37 := ⟨by decide +kernel, rfl⟩
theorem d_X5_readAtom_37 : gd cX5_readAtom 37 .dup 1 38 := ⟨by decide +kernel, rfl⟩
theorem d_X5_readAtom_38 : gd cX5_readAtom 38 (.getfield 69) 3 41 := ⟨by decide +kernel, rfl⟩
theorem d_X5_readAtom_41 : gd cX5_readAtom 41 (.iconst 1) 1 42 := ⟨by decide +kernel, rfl⟩
theorem d_X5_readAtom_42 : gd cX5_readAtom 42 .iadd 1 43 := ⟨by decide +kernel, rfl⟩
theorem d_X5_readAtom_43 : gd cX5_readAtom 43 (.putfield 69) 3 46 := ⟨by decide +kernel, rfl⟩
theorem d_X5_readAtom_46 : gd cX5_readAtom 46 (.aload_n 0) 1 47 := ⟨by decide +kernel, rfl⟩
theorem d_X5_readAtom_47 : gd cX5_readAtom 47 (.iload_n 2) 1 48 := ⟨by decide +kernel, rfl⟩
theorem d_X5_readAtom_48 : gd cX5_readAtom 48 .ineg 1 49 := ⟨by decide +kernel, rfl⟩
theorem d_X5_readAtom_49 : gd cX5_readAtom 49 (.invokevirtual 53) 3 52 := ⟨by decide +kernel, rfl⟩
theorem d_X5_readAtom_52 : gd cX5_readAtom 52 (.goto 41) 3 55 := ⟨by decide +kernel, rfl⟩
theorem d_X5_readAtom_55 : gd cX5_readAtom 55 (.iload_n 2) 1 56 := ⟨by decide +kernel, rfl⟩
theorem d_X5_readAtom_56 : gd cX5_readAtom 56 (.bipush 91) 2 58 := ⟨by decide +kernel, rfl⟩
theorem d_X5_readAtom_58 : gd cX5_readAtom 58 (.if_icmp .ne 27) 3 61 := ⟨by decide +kernel, rfl⟩
theorem d_X5_readAtom_61 : gd cX5_readAtom 61 (.aload_n 0) 1 62 := ⟨by decide +kernel, rfl⟩
theorem d_X5_readAtom_62 : gd cX5_readAtom 62 (.iload_n 1) 1 63 := ⟨by decide +kernel, rfl⟩
theorem d_X5_readAtom_63 : gd cX5_readAtom 63 (.invokevirtual 62) 3 66 := ⟨by decide +kernel, rfl⟩
theorem d_X5_readAtom_66 : gd cX5_readAtom 66 (.ifCond .eq 27) 3 69 := ⟨by decide +kernel, rfl⟩
theorem d_X5_readAtom_69 : gd cX5_readAtom 69 (.aload_n 0) 1 70 := ⟨by decide +kernel, rfl⟩
theorem d_X5_readAtom_70 : gd cX5_readAtom 70 (.iload_n 1) 1 71 := ⟨by decide +kernel, rfl⟩
theorem d_X5_readAtom_71 : gd cX5_readAtom 71 (.iconst 1) 1 72 := ⟨by decide +kernel, rfl⟩
theorem d_X5_readAtom_72 : gd cX5_readAtom 72 .iadd 1 73 := ⟨by decide +kernel, rfl⟩
theorem d_X5_readAtom_73 : gd cX5_readAtom 73 (.invokevirtual 47) 3 76 := ⟨by decide +kernel, rfl⟩
theorem d_X5_readAtom_76 : gd cX5_readAtom 76 (.aload_n 0) 1 77 := ⟨by decide +kernel, rfl⟩
theorem d_X5_readAtom_77 : gd cX5_readAtom 77 (.bipush 93) 2 79 := ⟨by decide +kernel, rfl⟩
theorem d_X5_readAtom_79 : gd cX5_readAtom 79 (.invokevirtual 34) 3 82 := ⟨by decide +kernel, rfl⟩
theorem d_X5_readAtom_82 : gd cX5_readAtom 82 (.goto 11) 3 85 := ⟨by decide +kernel, rfl⟩
theorem d_X5_readAtom_85 : gd cX5_readAtom 85 (.aload_n 0) 1 86 := ⟨by decide +kernel, rfl⟩
theorem d_X5_readAtom_86 : gd cX5_readAtom 86 (.aload_n 0) 1 87 := ⟨by decide +kernel, rfl⟩
theorem d_X5_readAtom_87 : gd cX5_readAtom 87 (.getfield 69) 3 90 := ⟨by decide +kernel, rfl⟩
theorem d_X5_readAtom_90 : gd cX5_readAtom 90 (.invokevirtual 72) 3 93 := ⟨by decide +kernel, rfl⟩
theorem d_X5_readAtom_93 : gd cX5_readAtom 93 .return_ 1 94 := ⟨by decide +kernel, rfl⟩
def O_X5_readAtom (E : Nat → Int32 → gs_M → Option gs_M) (x1 : Int32) (μ : gs_M) : Option (gs_M) :=
  bd (D_X4_next 5 μ) (fun v3 u2 => bd (D_X11_within v3 (48 : Int32) (57 : Int32) u2) (fun v6 u5 => if v6 = 0 then (bd (D_X6_letterOf v3 u5) (fun v10 u9 => if v10 = (-1 : Int32) then (if v3 = (91 : Int32) then (bd (D_X5_goesDeeper x1 u9) (fun v17 u16 => if v17 = 0 then (some u16) else (bd0 (E 4 (x1 + (1 : Int32)) u16) (fun u20 => bd0 (D_X4_expect 5 (93 : Int32) u20) (fun u22 => some u22))))) else (bd0 (D_X4_failAt 5 (gI u9 5 1) u9) (fun u14 => some u14))) else (lt1 (sI u9 5 1 ((gI u9 5 1) + (1 : Int32))) (fun u23 => bd0 (D_X5_put (-v3) u23) (fun u25 => some u25))))) else (bd (D_X4_digits 5 (4 : Int32) u5) (fun v28 u27 => bd0 (D_X5_put v28 u27) (fun u30 => some u30)))))
section S_X5_readAtom
variable {p : Program} {l : Launch} {e : Env} {R : Room} {s : State} {m : MethodId} {args : Array Value} {below : List Frame} {meth : Method} {c : Code} {ad : Nat → Nat} {g : va_G} {tyc : Nat → ClassId}
set_option maxRecDepth 20000 in
theorem C_X5_readAtom {n0 : Nat} {E : Nat → Int32 → gs_M → Option gs_M} (hE0 : ∀ (y0 : Int32) (μ : gs_M) (μ2 : gs_M), E 0 y0 μ = some μ2 → CALL yX5_readUnit cX5_readUnit 3 none (n0 + 10) [.ref 5, .int y0] μ none μ2) (hE1 : ∀ (y0 : Int32) (μ : gs_M) (μ2 : gs_M), E 1 y0 μ = some μ2 → CALL yX5_readConditionOn cX5_readConditionOn 3 none (n0 + 10) [.ref 5, .int y0] μ none μ2) (hE2 : ∀ (y0 : Int32) (μ : gs_M) (μ2 : gs_M), E 2 y0 μ = some μ2 → CALL yX5_readTruthOn cX5_readTruthOn 3 none (n0 + 10) [.ref 5, .int y0] μ none μ2) (hE3 : ∀ (y0 : Int32) (μ : gs_M) (μ2 : gs_M), E 3 y0 μ = some μ2 → CALL yX5_readComparison cX5_readComparison 3 none (n0 + 10) [.ref 5, .int y0] μ none μ2) (hE4 : ∀ (y0 : Int32) (μ : gs_M) (μ2 : gs_M), E 4 y0 μ = some μ2 → CALL yX5_readSum cX5_readSum 4 none (n0 + 10) [.ref 5, .int y0] μ none μ2) (hE5 : ∀ (y0 : Int32) (μ : gs_M) (μ2 : gs_M), E 5 y0 μ = some μ2 → CALL yX5_readTerm cX5_readTerm 4 none (n0 + 10) [.ref 5, .int y0] μ none μ2) (hE6 : ∀ (y0 : Int32) (μ : gs_M) (μ2 : gs_M), E 6 y0 μ = some μ2 → CALL yX5_readAtom cX5_readAtom 3 none (n0 + 10) [.ref 5, .int y0] μ none μ2) {x1 : Int32} {μ : gs_M} {μ2 : gs_M}  (hD : O_X5_readAtom E x1 μ = some μ2) : CALL yX5_readAtom cX5_readAtom 3 none (n0 + 11) [.ref 5, .int x1] μ none μ2 := by
  unfold O_X5_readAtom at hD
  refine gs_enter mf_X5_readAtom (Nat.le_of_ble_eq_true rfl) (ls := [.ref 5, .int x1, gs_J]) rfl (fun p l e R s m args below meth c ad g tyc hK => ?_)
  have hK : KC p R s m args meth c ad g tyc RX5 cX5_readAtom 3 none (n0 + 11) := hK
  refine r_aload_n hK d_X5_readAtom_0 rfl rfl ?_
  obtain ⟨v3, u2, e1, hD⟩ := bd_e hD
  refine r_callU (As := []) (st := []) (stk2 := [.int v3]) hK (C_X4_next_4 kd_5 e1) d_X5_readAtom_1 mf_X4_next ml_RX5_38 sm_RX5_X4_next ⟨rfl, rfl⟩ im_X4_next rfl se_4_RX5_X4_next kd_5 rfl (Nat.le_of_ble_eq_true rfl) (by omega) ⟨Nat.zero_le _, Nat.zero_le _⟩ rfl rfl ?_
  refine r_istore_n hK d_X5_readAtom_4 rfl (by decide) (ls2 := [.ref 5, .int x1, .int v3]) rfl ?_
  refine r_iload_n hK d_X5_readAtom_5 rfl rfl ?_
  refine r_bipush hK d_X5_readAtom_6 cb_48 ?_
  refine r_bipush hK d_X5_readAtom_8 cb_57 ?_
  obtain ⟨v6, u5, e4, hD⟩ := bd_e hD
  refine r_callSN (As := [.int v3, .int (48 : Int32), .int (57 : Int32)]) (st := []) (stk2 := [.int v6]) hK (C_X11_within  e4) d_X5_readAtom_10 mf_X11_within mn_RX5_81 ss_X11_within rfl (Nat.le_of_ble_eq_true rfl) (by omega) ⟨Nat.zero_le _, Nat.zero_le _⟩ rfl rfl ?_
  refine r_if_eq (tgt := 28) hK d_X5_readAtom_13 (by decide) (fun h7 => ?_) (fun h7 => ?_)
  · have hD := if_t hD h7
    refine r_iload_n hK d_X5_readAtom_28 rfl rfl ?_
    obtain ⟨v10, u9, e8, hD⟩ := bd_e hD
    refine r_callS (As := [.int v3]) (st := []) (stk2 := [.int v10]) hK (C_X6_letterOf  e8) d_X5_readAtom_29 mf_X6_letterOf ml_RX5_89 ss_X6_letterOf rfl (Nat.le_of_ble_eq_true rfl) (by omega) ⟨Nat.zero_le _, Nat.zero_le _⟩ rfl rfl ?_
    refine r_iconst hK d_X5_readAtom_32 ci_m1 ?_
    refine r_icmp_eq (tgt := 55) hK d_X5_readAtom_33 (by decide) (fun h11 => ?_) (fun h11 => ?_)
    · have hD := if_t hD h11
      refine r_iload_n hK d_X5_readAtom_55 rfl rfl ?_
      refine r_bipush hK d_X5_readAtom_56 cb_91 ?_
      refine r_icmp_ne (tgt := 85) hK d_X5_readAtom_58 (by decide) (fun h12 => ?_) (fun h12 => ?_)
      · have hD := if_f hD h12
        refine r_aload_n hK d_X5_readAtom_85 rfl rfl ?_
        refine r_aload_n hK d_X5_readAtom_86 rfl rfl ?_
        refine r_getI hK d_X5_readAtom_87 fl_RX5_69_4 rfl kd_5 ?_
        obtain ⟨u14, e13, hD⟩ := bd0_e hD
        refine r_callU (As := [.int (gI u9 5 1)]) (st := []) (stk2 := []) hK (C_X4_failAt_4 kd_5 e13) d_X5_readAtom_90 mf_X4_failAt ml_RX5_72 sm_RX5_X4_failAt ⟨rfl, rfl⟩ im_X4_failAt rfl se_4_RX5_X4_failAt kd_5 rfl (Nat.le_of_ble_eq_true rfl) (by omega) ⟨Nat.zero_le _, Nat.zero_le _⟩ rfl rfl ?_
        cases hD
        exact r_vret hK d_X5_readAtom_93
      · have hD := if_t hD h12
        refine r_aload_n hK d_X5_readAtom_61 rfl rfl ?_
        refine r_iload_n hK d_X5_readAtom_62 rfl rfl ?_
        obtain ⟨v17, u16, e15, hD⟩ := bd_e hD
        refine r_callV (As := [.int x1]) (st := []) (stk2 := [.int v17]) hK (C_X5_goesDeeper  e15) d_X5_readAtom_63 mf_X5_goesDeeper ml_RX5_62 im_X5_goesDeeper rfl se_4_RX5_X5_goesDeeper kd_5 rfl (Nat.le_of_ble_eq_true rfl) (by omega) ⟨Nat.zero_le _, Nat.zero_le _⟩ rfl rfl ?_
        refine r_if_eq (tgt := 93) hK d_X5_readAtom_66 (by decide) (fun h18 => ?_) (fun h18 => ?_)
        · have hD := if_t hD h18
          cases hD
          exact r_vret hK d_X5_readAtom_93
        · have hD := if_f hD h18
          refine r_aload_n hK d_X5_readAtom_69 rfl rfl ?_
          refine r_iload_n hK d_X5_readAtom_70 rfl rfl ?_
          refine r_iconst hK d_X5_readAtom_71 ci_1 ?_
          refine r_iadd hK d_X5_readAtom_72 ?_
          obtain ⟨u20, e19, hD⟩ := bd0_e hD
          refine r_callV (As := [.int (x1 + (1 : Int32))]) (st := []) (stk2 := []) hK (hE4 _ _ _ e19) d_X5_readAtom_73 mf_X5_readSum ml_RX5_47 im_X5_readSum rfl se_4_RX5_X5_readSum kd_5 rfl (Nat.le_of_ble_eq_true rfl) (by omega) ⟨Nat.zero_le _, Nat.zero_le _⟩ rfl rfl ?_
          refine r_aload_n hK d_X5_readAtom_76 rfl rfl ?_
          refine r_bipush hK d_X5_readAtom_77 cb_93 ?_
          obtain ⟨u22, e21, hD⟩ := bd0_e hD
          refine r_callU (As := [.int (93 : Int32)]) (st := []) (stk2 := []) hK (C_X4_expect_4 kd_5 e21) d_X5_readAtom_79 mf_X4_expect ml_RX5_34 sm_RX5_X4_expect ⟨rfl, rfl⟩ im_X4_expect rfl se_4_RX5_X4_expect kd_5 rfl (Nat.le_of_ble_eq_true rfl) (by omega) ⟨Nat.zero_le _, Nat.zero_le _⟩ rfl rfl ?_
          refine r_goto (tgt := 93) hK d_X5_readAtom_82 (by decide) ?_
          cases hD
          exact r_vret hK d_X5_readAtom_93
    · have hD := if_f hD h11
      refine r_aload_n hK d_X5_readAtom_36 rfl rfl ?_
      refine r_dup hK d_X5_readAtom_37 rfl ?_
      refine r_getI hK d_X5_readAtom_38 fl_RX5_69_4 rfl kd_5 ?_
      refine r_iconst hK d_X5_readAtom_41 ci_1 ?_
      refine r_iadd hK d_X5_readAtom_42 ?_
      refine r_putI hK d_X5_readAtom_43 fl_RX5_69_4 rfl rfl kd_5 ?_
      refine r_ltm hD (fun u23 hD => ?_)
      refine r_aload_n hK d_X5_readAtom_46 rfl rfl ?_
      refine r_iload_n hK d_X5_readAtom_47 rfl rfl ?_
      refine r_ineg hK d_X5_readAtom_48 ?_
      obtain ⟨u25, e24, hD⟩ := bd0_e hD
      refine r_callV (As := [.int (-v3)]) (st := []) (stk2 := []) hK (C_X5_put  e24) d_X5_readAtom_49 mf_X5_put ml_RX5_53 im_X5_put rfl se_4_RX5_X5_put kd_5 rfl (Nat.le_of_ble_eq_true rfl) (by omega) ⟨Nat.zero_le _, Nat.zero_le _⟩ rfl rfl ?_
      refine r_goto (tgt := 93) hK d_X5_readAtom_52 (by decide) ?_
      cases hD
      exact r_vret hK d_X5_readAtom_93
  · have hD := if_f hD h7
    refine r_aload_n hK d_X5_readAtom_16 rfl rfl ?_
    refine r_aload_n hK d_X5_readAtom_17 rfl rfl ?_
    refine r_iconst hK d_X5_readAtom_18 ci_4 ?_
    obtain ⟨v28, u27, e26, hD⟩ := bd_e hD
    refine r_callU (As := [.int (4 : Int32)]) (st := [.ref 5]) (stk2 := [.int v28, .ref 5]) hK (C_X4_digits_4 kd_5 e26) d_X5_readAtom_19 mf_X4_digits ml_RX5_85 sm_RX5_X4_digits ⟨rfl, rfl⟩ im_X4_digits rfl se_4_RX5_X4_digits kd_5 rfl (Nat.le_of_ble_eq_true rfl) (by omega) ⟨Nat.zero_le _, Nat.zero_le _⟩ rfl rfl ?_
    obtain ⟨u30, e29, hD⟩ := bd0_e hD
    refine r_callV (As := [.int v28]) (st := []) (stk2 := []) hK (C_X5_put  e29) d_X5_readAtom_22 mf_X5_put ml_RX5_53 im_X5_put rfl se_4_RX5_X5_put kd_5 rfl (Nat.le_of_ble_eq_true rfl) (by omega) ⟨Nat.zero_le _, Nat.zero_le _⟩ rfl rfl ?_
    refine r_goto (tgt := 93) hK d_X5_readAtom_25 (by decide) ?_
    cases hD
    exact r_vret hK d_X5_readAtom_93
end S_X5_readAtom
def RD : Nat → Nat → Int32 → gs_M → Option gs_M
  | 0 => fun _ _ _ => none
  | n + 1 => fun k y0 μ => match k with
    | 0 => O_X5_readUnit (RD n) y0 μ
    | 1 => O_X5_readConditionOn (RD n) y0 μ
    | 2 => O_X5_readTruthOn (RD n) y0 μ
    | 3 => O_X5_readComparison (RD n) y0 μ
    | 4 => O_X5_readSum (RD n) y0 μ
    | 5 => O_X5_readTerm (RD n) y0 μ
    | _ => O_X5_readAtom (RD n) y0 μ
set_option maxRecDepth 20000 in
theorem RD_ok : ∀ n : Nat, (∀ (y0 : Int32) (μ : gs_M) (μ2 : gs_M), RD n 0 y0 μ = some μ2 → CALL yX5_readUnit cX5_readUnit 3 none (n + 10) [.ref 5, .int y0] μ none μ2) ∧ (∀ (y0 : Int32) (μ : gs_M) (μ2 : gs_M), RD n 1 y0 μ = some μ2 → CALL yX5_readConditionOn cX5_readConditionOn 3 none (n + 10) [.ref 5, .int y0] μ none μ2) ∧ (∀ (y0 : Int32) (μ : gs_M) (μ2 : gs_M), RD n 2 y0 μ = some μ2 → CALL yX5_readTruthOn cX5_readTruthOn 3 none (n + 10) [.ref 5, .int y0] μ none μ2) ∧ (∀ (y0 : Int32) (μ : gs_M) (μ2 : gs_M), RD n 3 y0 μ = some μ2 → CALL yX5_readComparison cX5_readComparison 3 none (n + 10) [.ref 5, .int y0] μ none μ2) ∧ (∀ (y0 : Int32) (μ : gs_M) (μ2 : gs_M), RD n 4 y0 μ = some μ2 → CALL yX5_readSum cX5_readSum 4 none (n + 10) [.ref 5, .int y0] μ none μ2) ∧ (∀ (y0 : Int32) (μ : gs_M) (μ2 : gs_M), RD n 5 y0 μ = some μ2 → CALL yX5_readTerm cX5_readTerm 4 none (n + 10) [.ref 5, .int y0] μ none μ2) ∧ (∀ (y0 : Int32) (μ : gs_M) (μ2 : gs_M), RD n 6 y0 μ = some μ2 → CALL yX5_readAtom cX5_readAtom 3 none (n + 10) [.ref 5, .int y0] μ none μ2) := by
  intro n
  induction n with
  | zero => exact ⟨(fun _ _ _ h => (by cases h)), (fun _ _ _ h => (by cases h)), (fun _ _ _ h => (by cases h)), (fun _ _ _ h => (by cases h)), (fun _ _ _ h => (by cases h)), (fun _ _ _ h => (by cases h)), (fun _ _ _ h => (by cases h))⟩
  | succ n ih =>
    obtain ⟨i0, i1, i2, i3, i4, i5, i6⟩ := ih
    exact ⟨(fun _ _ _ h => C_X5_readUnit i0 i1 i2 i3 i4 i5 i6 h), (fun _ _ _ h => C_X5_readConditionOn i0 i1 i2 i3 i4 i5 i6 h), (fun _ _ _ h => C_X5_readTruthOn i0 i1 i2 i3 i4 i5 i6 h), (fun _ _ _ h => C_X5_readComparison i0 i1 i2 i3 i4 i5 i6 h), (fun _ _ _ h => C_X5_readSum i0 i1 i2 i3 i4 i5 i6 h), (fun _ _ _ h => C_X5_readTerm i0 i1 i2 i3 i4 i5 i6 h), (fun _ _ _ h => C_X5_readAtom i0 i1 i2 i3 i4 i5 i6 h)⟩
theorem RD_0 (n : Nat) : ∀ (y0 : Int32) (μ : gs_M) (μ2 : gs_M), RD n 0 y0 μ = some μ2 → CALL yX5_readUnit cX5_readUnit 3 none (n + 10) [.ref 5, .int y0] μ none μ2 := (RD_ok n).1
theorem RD_1 (n : Nat) : ∀ (y0 : Int32) (μ : gs_M) (μ2 : gs_M), RD n 1 y0 μ = some μ2 → CALL yX5_readConditionOn cX5_readConditionOn 3 none (n + 10) [.ref 5, .int y0] μ none μ2 := (RD_ok n).2.1
theorem RD_2 (n : Nat) : ∀ (y0 : Int32) (μ : gs_M) (μ2 : gs_M), RD n 2 y0 μ = some μ2 → CALL yX5_readTruthOn cX5_readTruthOn 3 none (n + 10) [.ref 5, .int y0] μ none μ2 := (RD_ok n).2.2.1
theorem RD_3 (n : Nat) : ∀ (y0 : Int32) (μ : gs_M) (μ2 : gs_M), RD n 3 y0 μ = some μ2 → CALL yX5_readComparison cX5_readComparison 3 none (n + 10) [.ref 5, .int y0] μ none μ2 := (RD_ok n).2.2.2.1
theorem RD_4 (n : Nat) : ∀ (y0 : Int32) (μ : gs_M) (μ2 : gs_M), RD n 4 y0 μ = some μ2 → CALL yX5_readSum cX5_readSum 4 none (n + 10) [.ref 5, .int y0] μ none μ2 := (RD_ok n).2.2.2.2.1
theorem RD_5 (n : Nat) : ∀ (y0 : Int32) (μ : gs_M) (μ2 : gs_M), RD n 5 y0 μ = some μ2 → CALL yX5_readTerm cX5_readTerm 4 none (n + 10) [.ref 5, .int y0] μ none μ2 := (RD_ok n).2.2.2.2.2.1
theorem RD_6 (n : Nat) : ∀ (y0 : Int32) (μ : gs_M) (μ2 : gs_M), RD n 6 y0 μ = some μ2 → CALL yX5_readAtom cX5_readAtom 3 none (n + 10) [.ref 5, .int y0] μ none μ2 := (RD_ok n).2.2.2.2.2.2
theorem d_X5_readClause_0 : gd cX5_readClause 0 (.aload_n 0) 1 1 := ⟨by decide +kernel, rfl⟩
theorem d_X5_readClause_1 : gd cX5_readClause 1 (.bipush 121) 2 3 := ⟨by decide +kernel, rfl⟩
theorem d_X5_readClause_3 : gd cX5_readClause 3 (.invokevirtual 34) 3 6 := ⟨by decide +kernel, rfl⟩
theorem d_X5_readClause_6 : gd cX5_readClause 6 (.aload_n 0) 1 7 := ⟨by decide +kernel, rfl⟩
theorem d_X5_readClause_7 : gd cX5_readClause 7 (.bipush 58) 2 9 := ⟨by decide +kernel, rfl⟩
theorem d_X5_readClause_9 : gd cX5_readClause 9 (.invokevirtual 34) 3 12 := ⟨by decide +kernel, rfl⟩
theorem d_X5_readClause_12 : gd cX5_readClause 12 (.aload_n 0) 1 13 := ⟨by decide +kernel, rfl⟩
theorem d_X5_readClause_13 : gd cX5_readClause 13 (.invokevirtual 38) 3 16 := ⟨by decide +kernel, rfl⟩
theorem d_X5_readClause_16 : gd cX5_readClause 16 (.istore_n 1) 1 17 := ⟨by decide +kernel, rfl⟩
theorem d_X5_readClause_17 : gd cX5_readClause 17 (.iload_n 1) 1 18 := ⟨by decide +kernel, rfl⟩
theorem d_X5_readClause_18 : gd cX5_readClause 18 (.bipush 33) 2 20 := ⟨by decide +kernel, rfl⟩
theorem d_X5_readClause_20 : gd cX5_readClause 20 (.if_icmp .eq 9) 3 23 := ⟨by decide +kernel, rfl⟩
theorem d_X5_readClause_23 : gd cX5_readClause 23 (.iload_n 1) 1 24 := ⟨by decide +kernel, rfl⟩
theorem d_X5_readClause_24 : gd cX5_readClause 24 (.bipush 40) 2 26 := ⟨by decide +kernel, rfl⟩
theorem d_X5_readClause_26 : gd cX5_readClause 26 (.if_icmp .ne 16) 3 29 := ⟨by decide +kernel, rfl⟩
theorem d_X5_readClause_29 : gd cX5_readClause 29 (.aload_n 0) 1 30 := ⟨by decide +kernel, rfl⟩
theorem d_X5_readClause_30 : gd cX5_readClause 30 (.iconst 0) 1 31 := ⟨by decide +kernel, rfl⟩
theorem d_X5_readClause_31 : gd cX5_readClause 31 (.invokevirtual 41) 3 34 := ⟨by decide +kernel, rfl⟩
theorem d_X5_readClause_34 : gd cX5_readClause 34 (.aload_n 0) 1 35 := ⟨by decide +kernel, rfl⟩
theorem d_X5_readClause_35 : gd cX5_readClause 35 (.iconst 0) 1 36 := ⟨by decide +kernel, rfl⟩
theorem d_X5_readClause_36 : gd cX5_readClause 36 (.invokevirtual 44) 3 39 := ⟨by decide +kernel, rfl⟩
theorem d_X5_readClause_39 : gd cX5_readClause 39 (.goto 35) 3 42 := ⟨by decide +kernel, rfl⟩
theorem d_X5_readClause_42 : gd cX5_readClause 42 (.aload_n 0) 1 43 := ⟨by decide +kernel, rfl⟩
theorem d_X5_readClause_43 : gd cX5_readClause 43 (.iconst 0) 1 44 := ⟨by decide +kernel, rfl⟩
theorem d_X5_readClause_44 : gd cX5_readClause 44 (.invokevirtual 47) 3 47 := ⟨by decide +kernel, rfl⟩
theorem d_X5_readClause_47 : gd cX5_readClause 47 (.aload_n 0) 1 48 := ⟨by decide +kernel, rfl⟩
theorem d_X5_readClause_48 : gd cX5_readClause 48 (.invokevirtual 38) 3 51 := ⟨by decide +kernel, rfl⟩
theorem d_X5_readClause_51 : gd cX5_readClause 51 (.invokestatic 50) 3 54 := ⟨by decide +kernel, rfl⟩
theorem d_X5_readClause_54 : gd cX5_readClause 54 (.ifCond .ne 10) 3 57 := ⟨by decide +kernel, rfl⟩
theorem d_X5_readClause_57 : gd cX5_readClause 57 (.aload_n 0) 1 58 := ⟨by decide +kernel, rfl⟩
theorem d_X5_readClause_58 : gd cX5_readClause 58 (.bipush (-121)) 2 60 := ⟨by decide +kernel, rfl⟩
theorem d_X5_readClause_60 : gd cX5_readClause 60 (.invokevirtual 53) 3 63 := ⟨by decide +kernel, rfl⟩
theorem d_X5_readClause_63 : gd cX5_readClause 63 .return_ 1 64 := ⟨by decide +kernel, rfl⟩
theorem d_X5_readClause_64 : gd cX5_readClause 64 (.aload_n 0) 1 65 := ⟨by decide +kernel, rfl⟩
theorem d_X5_readClause_65 : gd cX5_readClause 65 (.iconst 0) 1 66 := ⟨by decide +kernel, rfl⟩
theorem d_X5_readClause_66 : gd cX5_readClause 66 (.invokevirtual 56) 3 69 := ⟨by decide +kernel, rfl⟩
theorem d_X5_readClause_69 : gd cX5_readClause 69 (.aload_n 0) 1 70 := ⟨by decide +kernel, rfl⟩
theorem d_X5_readClause_70 : gd cX5_readClause 70 (.iconst 0) 1 71 := ⟨by decide +kernel, rfl⟩
theorem d_X5_readClause_71 : gd cX5_readClause 71 (.invokevirtual 44) 3 74 := ⟨by decide +kernel, rfl⟩
theorem d_X5_readClause_74 : gd cX5_readClause 74 (.aload_n 0) 1 75 := ⟨by decide +kernel, rfl⟩
theorem d_X5_readClause_75 : gd cX5_readClause 75 (.bipush 63) 2 77 := ⟨by decide +kernel, rfl⟩
theorem d_X5_readClause_77 : gd cX5_readClause 77 (.invokevirtual 34) 3 80 := ⟨by decide +kernel, rfl⟩
theorem d_X5_readClause_80 : gd cX5_readClause 80 (.aload_n 0) 1 81 := ⟨by decide +kernel, rfl⟩
theorem d_X5_readClause_81 : gd cX5_readClause 81 (.bipush (-63)) 2 83 := ⟨by decide +kernel, rfl⟩
theorem d_X5_readClause_83 : gd cX5_readClause 83 (.invokevirtual 53) 3 86 := ⟨by decide +kernel, rfl⟩
theorem d_X5_readClause_86 : gd cX5_readClause 86 (.aload_n 0) 1 87 := ⟨by decide +kernel, rfl⟩
theorem d_X5_readClause_87 : gd cX5_readClause 87 (.iconst 0) 1 88 := ⟨by decide +kernel, rfl⟩
theorem d_X5_readClause_88 : gd cX5_readClause 88 (.invokevirtual 47) 3 91 := ⟨by decide +kernel, rfl⟩
theorem d_X5_readClause_91 : gd cX5_readClause 91 (.aload_n 0) 1 92 := ⟨by decide +kernel, rfl⟩
theorem d_X5_readClause_92 : gd cX5_readClause 92 (.bipush (-121)) 2 94 := ⟨by decide +kernel, rfl⟩
theorem d_X5_readClause_94 : gd cX5_readClause 94 (.invokevirtual 53) 3 97 := ⟨by decide +kernel, rfl⟩
theorem d_X5_readClause_97 : gd cX5_readClause 97 .return_ 1 98 := ⟨by decide +kernel, rfl⟩
def B_X5_readClause_74   (μ : gs_M) : Option (gs_M) :=
  bd0 (D_X4_expect 5 (63 : Int32) μ) (fun u2 => bd0 (D_X5_put (-63 : Int32) u2) (fun u4 => bd0 (RD 64 4 (0 : Int32) u4) (fun u6 => bd0 (D_X5_put (-121 : Int32) u6) (fun u8 => some u8))))
def B_X5_readClause_29   (μ : gs_M) : Option (gs_M) :=
  bd0 (RD 64 0 (0 : Int32) μ) (fun u2 => bd0 (RD 64 1 (0 : Int32) u2) (fun u4 => B_X5_readClause_74 u4))
def D_X5_readClause  (μ : gs_M) : Option (gs_M) :=
  bd0 (D_X4_expect 5 (121 : Int32) μ) (fun u2 => bd0 (D_X4_expect 5 (58 : Int32) u2) (fun u4 => bd (D_X4_next 5 u4) (fun v7 u6 => if v7 = (33 : Int32) then (B_X5_readClause_29 u6) else (if v7 = (40 : Int32) then (B_X5_readClause_29 u6) else (bd0 (RD 64 4 (0 : Int32) u6) (fun u11 => bd (D_X4_next 5 u11) (fun v14 u13 => bd (D_X5_isComparison v14 u13) (fun v17 u16 => if v17 = 0 then (bd0 (D_X5_put (-121 : Int32) u16) (fun u24 => some u24)) else (bd0 (RD 64 3 (0 : Int32) u16) (fun u20 => bd0 (RD 64 1 (0 : Int32) u20) (fun u22 => B_X5_readClause_74 u22)))))))))))
section S_X5_readClause
variable {p : Program} {l : Launch} {e : Env} {R : Room} {s : State} {m : MethodId} {args : Array Value} {below : List Frame} {meth : Method} {c : Code} {ad : Nat → Nat} {g : va_G} {tyc : Nat → ClassId}
set_option maxRecDepth 20000 in
theorem T_X5_readClause_74  (hK : KC p R s m args meth c ad g tyc RX5 cX5_readClause 2 none 75) {μ2 : gs_M}    {μ : gs_M}  (hD : B_X5_readClause_74   μ = some μ2) : WJ p l e R s m args below meth c 0 0 (MQ below (gs_Q ad g tyc none μ2) args s 0 0 (gs_A ad)) ad g tyc 2 74 [.ref 5, gs_J] [] μ := by
  unfold B_X5_readClause_74 at hD
  refine r_aload_n hK d_X5_readClause_74 rfl rfl ?_
  refine r_bipush hK d_X5_readClause_75 cb_63 ?_
  obtain ⟨u2, e1, hD⟩ := bd0_e hD
  refine r_callU (As := [.int (63 : Int32)]) (st := []) (stk2 := []) hK (C_X4_expect_4 kd_5 e1) d_X5_readClause_77 mf_X4_expect ml_RX5_34 sm_RX5_X4_expect ⟨rfl, rfl⟩ im_X4_expect rfl se_4_RX5_X4_expect kd_5 rfl (Nat.le_of_ble_eq_true rfl) (by decide) ⟨Nat.zero_le _, Nat.zero_le _⟩ rfl rfl ?_
  refine r_aload_n hK d_X5_readClause_80 rfl rfl ?_
  refine r_bipush hK d_X5_readClause_81 cb_m63 ?_
  obtain ⟨u4, e3, hD⟩ := bd0_e hD
  refine r_callV (As := [.int (-63 : Int32)]) (st := []) (stk2 := []) hK (C_X5_put  e3) d_X5_readClause_83 mf_X5_put ml_RX5_53 im_X5_put rfl se_4_RX5_X5_put kd_5 rfl (Nat.le_of_ble_eq_true rfl) (by decide) ⟨Nat.zero_le _, Nat.zero_le _⟩ rfl rfl ?_
  refine r_aload_n hK d_X5_readClause_86 rfl rfl ?_
  refine r_iconst hK d_X5_readClause_87 ci_0 ?_
  obtain ⟨u6, e5, hD⟩ := bd0_e hD
  refine r_callV (As := [.int (0 : Int32)]) (st := []) (stk2 := []) hK (RD_4 64 _ _ _ e5) d_X5_readClause_88 mf_X5_readSum ml_RX5_47 im_X5_readSum rfl se_4_RX5_X5_readSum kd_5 rfl (Nat.le_of_ble_eq_true rfl) (by decide) ⟨Nat.zero_le _, Nat.zero_le _⟩ rfl rfl ?_
  refine r_aload_n hK d_X5_readClause_91 rfl rfl ?_
  refine r_bipush hK d_X5_readClause_92 cb_m121 ?_
  obtain ⟨u8, e7, hD⟩ := bd0_e hD
  refine r_callV (As := [.int (-121 : Int32)]) (st := []) (stk2 := []) hK (C_X5_put  e7) d_X5_readClause_94 mf_X5_put ml_RX5_53 im_X5_put rfl se_4_RX5_X5_put kd_5 rfl (Nat.le_of_ble_eq_true rfl) (by decide) ⟨Nat.zero_le _, Nat.zero_le _⟩ rfl rfl ?_
  cases hD
  exact r_vret hK d_X5_readClause_97
set_option maxRecDepth 20000 in
theorem T_X5_readClause_29  (hK : KC p R s m args meth c ad g tyc RX5 cX5_readClause 2 none 75) {μ2 : gs_M}    {μ : gs_M}  (hD : B_X5_readClause_29   μ = some μ2) : WJ p l e R s m args below meth c 0 0 (MQ below (gs_Q ad g tyc none μ2) args s 0 0 (gs_A ad)) ad g tyc 2 29 [.ref 5, gs_J] [] μ := by
  unfold B_X5_readClause_29 at hD
  refine r_aload_n hK d_X5_readClause_29 rfl rfl ?_
  refine r_iconst hK d_X5_readClause_30 ci_0 ?_
  obtain ⟨u2, e1, hD⟩ := bd0_e hD
  refine r_callV (As := [.int (0 : Int32)]) (st := []) (stk2 := []) hK (RD_0 64 _ _ _ e1) d_X5_readClause_31 mf_X5_readUnit ml_RX5_41 im_X5_readUnit rfl se_4_RX5_X5_readUnit kd_5 rfl (Nat.le_of_ble_eq_true rfl) (by decide) ⟨Nat.zero_le _, Nat.zero_le _⟩ rfl rfl ?_
  refine r_aload_n hK d_X5_readClause_34 rfl rfl ?_
  refine r_iconst hK d_X5_readClause_35 ci_0 ?_
  obtain ⟨u4, e3, hD⟩ := bd0_e hD
  refine r_callV (As := [.int (0 : Int32)]) (st := []) (stk2 := []) hK (RD_1 64 _ _ _ e3) d_X5_readClause_36 mf_X5_readConditionOn ml_RX5_44 im_X5_readConditionOn rfl se_4_RX5_X5_readConditionOn kd_5 rfl (Nat.le_of_ble_eq_true rfl) (by decide) ⟨Nat.zero_le _, Nat.zero_le _⟩ rfl rfl ?_
  refine r_goto (tgt := 74) hK d_X5_readClause_39 (by decide) ?_
  exact T_X5_readClause_74 hK   hD
set_option maxRecDepth 20000 in
theorem C_X5_readClause   {μ : gs_M} {μ2 : gs_M}  (hD : D_X5_readClause  μ = some μ2) : CALL yX5_readClause cX5_readClause 2 none 75 [.ref 5] μ none μ2 := by
  unfold D_X5_readClause at hD
  refine gs_enter mf_X5_readClause (Nat.le_of_ble_eq_true rfl) (ls := [.ref 5, gs_J]) rfl (fun p l e R s m args below meth c ad g tyc hK => ?_)
  have hK : KC p R s m args meth c ad g tyc RX5 cX5_readClause 2 none 75 := hK
  refine r_aload_n hK d_X5_readClause_0 rfl rfl ?_
  refine r_bipush hK d_X5_readClause_1 cb_121 ?_
  obtain ⟨u2, e1, hD⟩ := bd0_e hD
  refine r_callU (As := [.int (121 : Int32)]) (st := []) (stk2 := []) hK (C_X4_expect_4 kd_5 e1) d_X5_readClause_3 mf_X4_expect ml_RX5_34 sm_RX5_X4_expect ⟨rfl, rfl⟩ im_X4_expect rfl se_4_RX5_X4_expect kd_5 rfl (Nat.le_of_ble_eq_true rfl) (by decide) ⟨Nat.zero_le _, Nat.zero_le _⟩ rfl rfl ?_
  refine r_aload_n hK d_X5_readClause_6 rfl rfl ?_
  refine r_bipush hK d_X5_readClause_7 cb_58 ?_
  obtain ⟨u4, e3, hD⟩ := bd0_e hD
  refine r_callU (As := [.int (58 : Int32)]) (st := []) (stk2 := []) hK (C_X4_expect_4 kd_5 e3) d_X5_readClause_9 mf_X4_expect ml_RX5_34 sm_RX5_X4_expect ⟨rfl, rfl⟩ im_X4_expect rfl se_4_RX5_X4_expect kd_5 rfl (Nat.le_of_ble_eq_true rfl) (by decide) ⟨Nat.zero_le _, Nat.zero_le _⟩ rfl rfl ?_
  refine r_aload_n hK d_X5_readClause_12 rfl rfl ?_
  obtain ⟨v7, u6, e5, hD⟩ := bd_e hD
  refine r_callU (As := []) (st := []) (stk2 := [.int v7]) hK (C_X4_next_4 kd_5 e5) d_X5_readClause_13 mf_X4_next ml_RX5_38 sm_RX5_X4_next ⟨rfl, rfl⟩ im_X4_next rfl se_4_RX5_X4_next kd_5 rfl (Nat.le_of_ble_eq_true rfl) (by decide) ⟨Nat.zero_le _, Nat.zero_le _⟩ rfl rfl ?_
  refine r_istore_n hK d_X5_readClause_16 rfl (by decide) (ls2 := [.ref 5, .int v7]) rfl ?_
  refine r_iload_n hK d_X5_readClause_17 rfl rfl ?_
  refine r_bipush hK d_X5_readClause_18 cb_33 ?_
  refine r_icmp_eq (tgt := 29) hK d_X5_readClause_20 (by decide) (fun h8 => ?_) (fun h8 => ?_)
  · have hD := if_t hD h8
    refine r_junk [true, false] (ls2 := [.ref 5, gs_J]) rfl ?_
    exact T_X5_readClause_29 hK   hD
  · have hD := if_f hD h8
    refine r_iload_n hK d_X5_readClause_23 rfl rfl ?_
    refine r_bipush hK d_X5_readClause_24 cb_40 ?_
    refine r_icmp_ne (tgt := 42) hK d_X5_readClause_26 (by decide) (fun h9 => ?_) (fun h9 => ?_)
    · have hD := if_f hD h9
      refine r_aload_n hK d_X5_readClause_42 rfl rfl ?_
      refine r_iconst hK d_X5_readClause_43 ci_0 ?_
      obtain ⟨u11, e10, hD⟩ := bd0_e hD
      refine r_callV (As := [.int (0 : Int32)]) (st := []) (stk2 := []) hK (RD_4 64 _ _ _ e10) d_X5_readClause_44 mf_X5_readSum ml_RX5_47 im_X5_readSum rfl se_4_RX5_X5_readSum kd_5 rfl (Nat.le_of_ble_eq_true rfl) (by decide) ⟨Nat.zero_le _, Nat.zero_le _⟩ rfl rfl ?_
      refine r_aload_n hK d_X5_readClause_47 rfl rfl ?_
      obtain ⟨v14, u13, e12, hD⟩ := bd_e hD
      refine r_callU (As := []) (st := []) (stk2 := [.int v14]) hK (C_X4_next_4 kd_5 e12) d_X5_readClause_48 mf_X4_next ml_RX5_38 sm_RX5_X4_next ⟨rfl, rfl⟩ im_X4_next rfl se_4_RX5_X4_next kd_5 rfl (Nat.le_of_ble_eq_true rfl) (by decide) ⟨Nat.zero_le _, Nat.zero_le _⟩ rfl rfl ?_
      obtain ⟨v17, u16, e15, hD⟩ := bd_e hD
      refine r_callS (As := [.int v14]) (st := []) (stk2 := [.int v17]) hK (C_X5_isComparison  e15) d_X5_readClause_51 mf_X5_isComparison ml_RX5_50 ss_X5_isComparison rfl (Nat.le_of_ble_eq_true rfl) (by decide) ⟨Nat.zero_le _, Nat.zero_le _⟩ rfl rfl ?_
      refine r_if_ne (tgt := 64) hK d_X5_readClause_54 (by decide) (fun h18 => ?_) (fun h18 => ?_)
      · have hD := if_f hD h18
        refine r_aload_n hK d_X5_readClause_64 rfl rfl ?_
        refine r_iconst hK d_X5_readClause_65 ci_0 ?_
        obtain ⟨u20, e19, hD⟩ := bd0_e hD
        refine r_callV (As := [.int (0 : Int32)]) (st := []) (stk2 := []) hK (RD_3 64 _ _ _ e19) d_X5_readClause_66 mf_X5_readComparison ml_RX5_56 im_X5_readComparison rfl se_4_RX5_X5_readComparison kd_5 rfl (Nat.le_of_ble_eq_true rfl) (by decide) ⟨Nat.zero_le _, Nat.zero_le _⟩ rfl rfl ?_
        refine r_aload_n hK d_X5_readClause_69 rfl rfl ?_
        refine r_iconst hK d_X5_readClause_70 ci_0 ?_
        obtain ⟨u22, e21, hD⟩ := bd0_e hD
        refine r_callV (As := [.int (0 : Int32)]) (st := []) (stk2 := []) hK (RD_1 64 _ _ _ e21) d_X5_readClause_71 mf_X5_readConditionOn ml_RX5_44 im_X5_readConditionOn rfl se_4_RX5_X5_readConditionOn kd_5 rfl (Nat.le_of_ble_eq_true rfl) (by decide) ⟨Nat.zero_le _, Nat.zero_le _⟩ rfl rfl ?_
        refine r_junk [true, false] (ls2 := [.ref 5, gs_J]) rfl ?_
        exact T_X5_readClause_74 hK   hD
      · have hD := if_t hD h18
        refine r_aload_n hK d_X5_readClause_57 rfl rfl ?_
        refine r_bipush hK d_X5_readClause_58 cb_m121 ?_
        obtain ⟨u24, e23, hD⟩ := bd0_e hD
        refine r_callV (As := [.int (-121 : Int32)]) (st := []) (stk2 := []) hK (C_X5_put  e23) d_X5_readClause_60 mf_X5_put ml_RX5_53 im_X5_put rfl se_4_RX5_X5_put kd_5 rfl (Nat.le_of_ble_eq_true rfl) (by decide) ⟨Nat.zero_le _, Nat.zero_le _⟩ rfl rfl ?_
        cases hD
        exact r_vret hK d_X5_readClause_63
    · have hD := if_t hD h9
      refine r_junk [true, false] (ls2 := [.ref 5, gs_J]) rfl ?_
      exact T_X5_readClause_29 hK   hD
end S_X5_readClause
theorem d_X5_readAll_0 : gd cX5_readAll 0 (.aload_n 0) 1 1 := ⟨by decide +kernel, rfl⟩
theorem d_X5_readAll_1 : gd cX5_readAll 1 (.invokevirtual 15) 3 4 := ⟨by decide +kernel, rfl⟩
theorem d_X5_readAll_4 : gd cX5_readAll 4 (.aload_n 0) 1 5 := ⟨by decide +kernel, rfl⟩
theorem d_X5_readAll_5 : gd cX5_readAll 5 (.iconst 0) 1 6 := ⟨by decide +kernel, rfl⟩
theorem d_X5_readAll_6 : gd cX5_readAll 6 (.putfield 19) 3 9 := ⟨by decide +kernel, rfl⟩
theorem d_X5_readAll_9 : gd cX5_readAll 9 (.iconst 1) 1 10 := ⟨by decide +kernel, rfl⟩
theorem d_X5_readAll_10 : gd cX5_readAll 10 (.istore_n 1) 1 11 := ⟨by decide +kernel, rfl⟩
theorem d_X5_readAll_11 : gd cX5_readAll 11 (.iconst 0) 1 12 := ⟨by decide +kernel, rfl⟩
theorem d_X5_readAll_12 : gd cX5_readAll 12 (.istore_n 2) 1 13 := ⟨by decide +kernel, rfl⟩
theorem d_X5_readAll_13 : gd cX5_readAll 13 (.iload_n 2) 1 14 := ⟨by decide +kernel, rfl⟩
theorem d_X5_readAll_14 : gd cX5_readAll 14 (.sipush 160) 3 17 := ⟨by decide +kernel, rfl⟩
theorem d_X5_readAll_17 : gd cX5_readAll 17 (.if_icmp .ge 24) 3 20 := ⟨by decide +kernel, rfl⟩
theorem d_X5_readAll_20 : gd cX5_readAll 20 (.iload_n 1) 1 21 := ⟨by decide +kernel, rfl⟩
theorem d_X5_readAll_21 : gd cX5_readAll 21 (.ifCond .eq 20) 3 24 := ⟨by decide +kernel, rfl⟩
theorem d_X5_readAll_24 : gd cX5_readAll 24 (.aload_n 0) 1 25 := ⟨by decide +kernel, rfl⟩
theorem d_X5_readAll_25 : gd cX5_readAll 25 (.invokevirtual 23) 3 28 := ⟨by decide +kernel, rfl⟩
theorem d_X5_readAll_28 : gd cX5_readAll 28 (.aload_n 0) 1 29 := ⟨by decide +kernel, rfl⟩
theorem d_X5_readAll_29 : gd cX5_readAll 29 (.bipush 59) 2 31 := ⟨by decide +kernel, rfl⟩
theorem d_X5_readAll_31 : gd cX5_readAll 31 (.invokevirtual 26) 3 34 := ⟨by decide +kernel, rfl⟩
theorem d_X5_readAll_34 : gd cX5_readAll 34 (.istore_n 1) 1 35 := ⟨by decide +kernel, rfl⟩
theorem d_X5_readAll_35 : gd cX5_readAll 35 (.iinc 2 1) 3 38 := ⟨by decide +kernel, rfl⟩
theorem d_X5_readAll_38 : gd cX5_readAll 38 (.goto (-25)) 3 41 := ⟨by decide +kernel, rfl⟩
theorem d_X5_readAll_41 : gd cX5_readAll 41 (.aload_n 0) 1 42 := ⟨by decide +kernel, rfl⟩
theorem d_X5_readAll_42 : gd cX5_readAll 42 (.invokevirtual 30) 3 45 := ⟨by decide +kernel, rfl⟩
theorem d_X5_readAll_45 : gd cX5_readAll 45 .ireturn 1 46 := ⟨by decide +kernel, rfl⟩
def B_X5_readAll_41   (μ : gs_M) : Option (Int32 × gs_M) :=
  bd (D_X4_finish 5 μ) (fun v3 u2 => some (v3, u2))
def Bo_X5_readAll_13 (q13 : Int32 → Int32 → gs_M → Option (Int32 × gs_M)) (x1 : Int32) (x2 : Int32) (μ : gs_M) : Option (Int32 × gs_M) :=
  if (160 : Int32) ≤ x2 then (B_X5_readAll_41 μ) else (if x1 = 0 then (B_X5_readAll_41 μ) else (bd0 (D_X5_readClause μ) (fun u4 => bd (D_X4_accept 5 (59 : Int32) u4) (fun v7 u6 => q13 v7 (x2 + (1 : Int32)) u6))))
def L_X5_readAll_13  : Nat → Int32 → Int32 → gs_M → Option (Int32 × gs_M)
  | 0 => fun _ _ _ => none
  | n + 1 => fun x1 x2 μ => Bo_X5_readAll_13  (L_X5_readAll_13  n) x1 x2 μ
def D_X5_readAll  (μ : gs_M) : Option (Int32 × gs_M) :=
  bd0 (D_X4_begin 5 μ) (fun u2 => lt1 (sI u2 5 4 (0 : Int32)) (fun u3 => L_X5_readAll_13 4096 (1 : Int32) (0 : Int32) u3))
section S_X5_readAll
variable {p : Program} {l : Launch} {e : Env} {R : Room} {s : State} {m : MethodId} {args : Array Value} {below : List Frame} {meth : Method} {c : Code} {ad : Nat → Nat} {g : va_G} {tyc : Nat → ClassId}
set_option maxRecDepth 20000 in
theorem T_X5_readAll_41  (hK : KC p R s m args meth c ad g tyc RX5 cX5_readAll 3 (some .int) 76) {r : Int32} {μ2 : gs_M}    {μ : gs_M}  (hD : B_X5_readAll_41   μ = some (r, μ2)) : WJ p l e R s m args below meth c 0 0 (MQ below (gs_Q ad g tyc (some (.int r)) μ2) args s 0 0 (gs_A ad)) ad g tyc 3 41 [.ref 5, gs_J, gs_J] [] μ := by
  unfold B_X5_readAll_41 at hD
  refine r_aload_n hK d_X5_readAll_41 rfl rfl ?_
  obtain ⟨v3, u2, e1, hD⟩ := bd_e hD
  refine r_callU (As := []) (st := []) (stk2 := [.int v3]) hK (C_X4_finish_4 kd_5 e1) d_X5_readAll_42 mf_X4_finish ml_RX5_30 sm_RX5_X4_finish ⟨rfl, rfl⟩ im_X4_finish rfl se_4_RX5_X4_finish kd_5 rfl (Nat.le_of_ble_eq_true rfl) (by decide) ⟨Nat.zero_le _, Nat.zero_le _⟩ rfl rfl ?_
  cases hD
  exact r_iret hK d_X5_readAll_45
set_option maxRecDepth 20000 in
theorem To_X5_readAll_13  (hK : KC p R s m args meth c ad g tyc RX5 cX5_readAll 3 (some .int) 76) {r : Int32} {μ2 : gs_M} {q13 : Int32 → Int32 → gs_M → Option (Int32 × gs_M)} (hq13 : ∀ (x1 : Int32) (x2 : Int32) (μ : gs_M), q13 x1 x2 μ = some (r, μ2) → WJ p l e R s m args below meth c 0 0 (MQ below (gs_Q ad g tyc (some (.int r)) μ2) args s 0 0 (gs_A ad)) ad g tyc 3 13 [.ref 5, .int x1, .int x2] [] μ) {x1 : Int32} {x2 : Int32} {μ : gs_M}  (hD : Bo_X5_readAll_13 q13 x1 x2 μ = some (r, μ2)) : WJ p l e R s m args below meth c 0 0 (MQ below (gs_Q ad g tyc (some (.int r)) μ2) args s 0 0 (gs_A ad)) ad g tyc 3 13 [.ref 5, .int x1, .int x2] [] μ := by
  unfold Bo_X5_readAll_13 at hD
  refine r_iload_n hK d_X5_readAll_13 rfl rfl ?_
  refine r_sipush hK d_X5_readAll_14 cs_160 ?_
  refine r_icmp_ge (tgt := 41) hK d_X5_readAll_17 (by decide) (fun h1 => ?_) (fun h1 => ?_)
  · have hD := if_t hD h1
    refine r_junk [true, false, false] (ls2 := [.ref 5, gs_J, gs_J]) rfl ?_
    exact T_X5_readAll_41 hK   hD
  · have hD := if_f hD h1
    refine r_iload_n hK d_X5_readAll_20 rfl rfl ?_
    refine r_if_eq (tgt := 41) hK d_X5_readAll_21 (by decide) (fun h2 => ?_) (fun h2 => ?_)
    · have hD := if_t hD h2
      refine r_junk [true, false, false] (ls2 := [.ref 5, gs_J, gs_J]) rfl ?_
      exact T_X5_readAll_41 hK   hD
    · have hD := if_f hD h2
      refine r_aload_n hK d_X5_readAll_24 rfl rfl ?_
      obtain ⟨u4, e3, hD⟩ := bd0_e hD
      refine r_callV (As := []) (st := []) (stk2 := []) hK (C_X5_readClause  e3) d_X5_readAll_25 mf_X5_readClause ml_RX5_23 im_X5_readClause rfl se_4_RX5_X5_readClause kd_5 rfl (Nat.le_of_ble_eq_true rfl) (by decide) ⟨Nat.zero_le _, Nat.zero_le _⟩ rfl rfl ?_
      refine r_aload_n hK d_X5_readAll_28 rfl rfl ?_
      refine r_bipush hK d_X5_readAll_29 cb_59 ?_
      obtain ⟨v7, u6, e5, hD⟩ := bd_e hD
      refine r_callU (As := [.int (59 : Int32)]) (st := []) (stk2 := [.int v7]) hK (C_X4_accept_4 kd_5 e5) d_X5_readAll_31 mf_X4_accept ml_RX5_26 sm_RX5_X4_accept ⟨rfl, rfl⟩ im_X4_accept rfl se_4_RX5_X4_accept kd_5 rfl (Nat.le_of_ble_eq_true rfl) (by decide) ⟨Nat.zero_le _, Nat.zero_le _⟩ rfl rfl ?_
      refine r_istore_n hK d_X5_readAll_34 rfl (by decide) (ls2 := [.ref 5, .int v7, .int x2]) rfl ?_
      refine r_iinc hK d_X5_readAll_35 rfl (v := x2 + (1 : Int32)) (by rw [ci_1]) (by decide) (ls2 := [.ref 5, .int v7, .int (x2 + (1 : Int32))]) rfl ?_
      refine r_goto (tgt := 13) hK d_X5_readAll_38 (by decide) ?_
      exact hq13 _ _ _  hD
set_option maxRecDepth 20000 in
theorem TL_X5_readAll_13  (hK : KC p R s m args meth c ad g tyc RX5 cX5_readAll 3 (some .int) 76) {r : Int32} {μ2 : gs_M}   : ∀ (n : Nat) (x1 : Int32) (x2 : Int32) (μ : gs_M), L_X5_readAll_13  n x1 x2 μ = some (r, μ2) → WJ p l e R s m args below meth c 0 0 (MQ below (gs_Q ad g tyc (some (.int r)) μ2) args s 0 0 (gs_A ad)) ad g tyc 3 13 [.ref 5, .int x1, .int x2] [] μ := by
  intro n
  induction n with
  | zero => intro x1 x2 μ  hD; cases hD
  | succ n ih => intro x1 x2 μ  hD; exact To_X5_readAll_13 hK  ih  hD
set_option maxRecDepth 20000 in
theorem C_X5_readAll   {μ : gs_M} {r : Int32} {μ2 : gs_M}  (hD : D_X5_readAll  μ = some (r, μ2)) : CALL yX5_readAll cX5_readAll 3 (some .int) 76 [.ref 5] μ (some (.int r)) μ2 := by
  unfold D_X5_readAll at hD
  refine gs_enter mf_X5_readAll (Nat.le_of_ble_eq_true rfl) (ls := [.ref 5, gs_J, gs_J]) rfl (fun p l e R s m args below meth c ad g tyc hK => ?_)
  have hK : KC p R s m args meth c ad g tyc RX5 cX5_readAll 3 (some .int) 76 := hK
  refine r_aload_n hK d_X5_readAll_0 rfl rfl ?_
  obtain ⟨u2, e1, hD⟩ := bd0_e hD
  refine r_callU (As := []) (st := []) (stk2 := []) hK (C_X4_begin_4 kd_5 e1) d_X5_readAll_1 mf_X4_begin ml_RX5_15 sm_RX5_X4_begin ⟨rfl, rfl⟩ im_X4_begin rfl se_4_RX5_X4_begin kd_5 rfl (Nat.le_of_ble_eq_true rfl) (by decide) ⟨Nat.zero_le _, Nat.zero_le _⟩ rfl rfl ?_
  refine r_aload_n hK d_X5_readAll_4 rfl rfl ?_
  refine r_iconst hK d_X5_readAll_5 ci_0 ?_
  refine r_putI hK d_X5_readAll_6 fl_RX5_19_4 rfl rfl kd_5 ?_
  refine r_ltm hD (fun u3 hD => ?_)
  refine r_iconst hK d_X5_readAll_9 ci_1 ?_
  refine r_istore_n hK d_X5_readAll_10 rfl (by decide) (ls2 := [.ref 5, .int (1 : Int32), gs_J]) rfl ?_
  refine r_iconst hK d_X5_readAll_11 ci_0 ?_
  refine r_istore_n hK d_X5_readAll_12 rfl (by decide) (ls2 := [.ref 5, .int (1 : Int32), .int (0 : Int32)]) rfl ?_
  exact TL_X5_readAll_13 hK  _ _ _ _  hD
end S_X5_readAll
