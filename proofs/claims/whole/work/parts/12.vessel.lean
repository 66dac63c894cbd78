theorem fl_RX10_22_9 : gs_FL RX10 22 "GrainShift$Vessel" 9 1 (RX10, TX10, 7) := ⟨rfl, by decide, gs_t 241 (by decide +kernel) (by decide +kernel), Or.inl rfl⟩
theorem mf_X10_isLoaded : gs_MF yX10_isLoaded cX10_isLoaded 1 (some .boolean) 0 := ⟨gs_t 666 (by decide +kernel) (by decide +kernel), gs_t 9 (by decide +kernel) (by decide +kernel), by decide, by decide, by decide +kernel, by decide, by decide⟩
theorem mf_X10_hasHold : gs_MF yX10_hasHold cX10_hasHold 2 (some .boolean) 1 := ⟨gs_t 741 (by decide +kernel) (by decide +kernel), gs_t 9 (by decide +kernel) (by decide +kernel), by decide, by decide, by decide +kernel, by decide, by decide⟩
theorem se_9_RX10_X10_hasHold : Cond.selects RX10 yX10_hasHold yX10_hasHold ∈ gs_tbl := gs_t 740 (by decide +kernel) (by decide +kernel)
theorem ml_RX10_26 : Cond.methodLink RX10 26 yX10_hasHold ∈ gs_tbl := gs_t 738 (by decide +kernel) (by decide +kernel)
theorem im_X10_hasHold : Cond.instanceMethod yX10_hasHold ∈ gs_tbl := gs_t 739 (by decide +kernel) (by decide +kernel)
theorem fl_RX10_12_9 : gs_FL RX10 12 "GrainShift$Vessel" 9 0 (RX10, TX10, 7) := ⟨rfl, by decide, gs_t 239 (by decide +kernel) (by decide +kernel), Or.inl rfl⟩
theorem fl_RX10_30_1 : gs_FL RX10 30 "GrainShift$Hold" 1 1 (RX1, TX1, 14) := ⟨rfl, by decide, gs_t 187 (by decide +kernel) (by decide +kernel), Or.inl rfl⟩
theorem mf_X10_hasColumn : gs_MF yX10_hasColumn cX10_hasColumn 3 (some .boolean) 2 := ⟨gs_t 737 (by decide +kernel) (by decide +kernel), gs_t 9 (by decide +kernel) (by decide +kernel), by decide, by decide, by decide +kernel, by decide, by decide⟩
theorem fl_RX10_33_9 : gs_FL RX10 33 "GrainShift$Vessel" 9 2 (RX10, TX10, 7) := ⟨rfl, by decide, gs_t 243 (by decide +kernel) (by decide +kernel), Or.inl rfl⟩
theorem fl_RX10_36_9 : gs_FL RX10 36 "GrainShift$Vessel" 9 3 (RX10, TX10, 7) := ⟨rfl, by decide, gs_t 245 (by decide +kernel) (by decide +kernel), Or.inl rfl⟩
theorem fl_RX10_39_9 : gs_FL RX10 39 "GrainShift$Vessel" 9 4 (RX10, TX10, 7) := ⟨rfl, by decide, gs_t 247 (by decide +kernel) (by decide +kernel), Or.inl rfl⟩
theorem fl_RX10_43_9 : gs_FL RX10 43 "GrainShift$Vessel" 9 5 (RX10, TX10, 7) := ⟨rfl, by decide, gs_t 249 (by decide +kernel) (by decide +kernel), Or.inl rfl⟩
theorem mf_X10_startAnew : gs_MF yX10_startAnew cX10_startAnew 2 none 1 := ⟨gs_t 602 (by decide +kernel) (by decide +kernel), gs_t 9 (by decide +kernel) (by decide +kernel), by decide, by decide, by decide +kernel, by decide, by decide⟩
theorem se_1_RX1_X1_become : Cond.selects RX1 yX1_become yX1_become ∈ gs_tbl := gs_t 788 (by decide +kernel) (by decide +kernel)
theorem ml_RX10_47 : Cond.methodLink RX10 47 yX1_become ∈ gs_tbl := gs_t 786 (by decide +kernel) (by decide +kernel)
theorem im_X1_become : Cond.instanceMethod yX1_become ∈ gs_tbl := gs_t 787 (by decide +kernel) (by decide +kernel)
theorem mf_X10_become : gs_MF yX10_become cX10_become 3 none 1 := ⟨gs_t 785 (by decide +kernel) (by decide +kernel), gs_t 9 (by decide +kernel) (by decide +kernel), by decide, by decide, by decide +kernel, by decide, by decide⟩
theorem se_1_RX1_X1_moment : Cond.selects RX1 yX1_moment yX1_moment ∈ gs_tbl := gs_t 682 (by decide +kernel) (by decide +kernel)
theorem ml_RX10_51 : Cond.methodLink RX10 51 yX1_moment ∈ gs_tbl := gs_t 680 (by decide +kernel) (by decide +kernel)
theorem im_X1_moment : Cond.instanceMethod yX1_moment ∈ gs_tbl := gs_t 681 (by decide +kernel) (by decide +kernel)
theorem mf_X10_moments : gs_MF yX10_moments cX10_moments 3 (some .int) 0 := ⟨gs_t 679 (by decide +kernel) (by decide +kernel), gs_t 9 (by decide +kernel) (by decide +kernel), by decide, by decide, by decide +kernel, by decide, by decide⟩
theorem fl_RX10_18_9 : gs_FL RX10 18 "GrainShift$Vessel" 9 6 (RX10, TX10, 7) := ⟨rfl, by decide, gs_t 251 (by decide +kernel) (by decide +kernel), Or.inl rfl⟩
theorem fl_RX10_55_6 : gs_FL RX10 55 "GrainShift$Settings" 6 0 (RX7, TX7, 3) := ⟨rfl, by decide, gs_t 156 (by decide +kernel) (by decide +kernel), Or.inl rfl⟩
theorem se_9_RX10_X10_moments : Cond.selects RX10 yX10_moments yX10_moments ∈ gs_tbl := gs_t 678 (by decide +kernel) (by decide +kernel)
theorem ml_RX10_60 : Cond.methodLink RX10 60 yX10_moments ∈ gs_tbl := gs_t 676 (by decide +kernel) (by decide +kernel)
theorem im_X10_moments : Cond.instanceMethod yX10_moments ∈ gs_tbl := gs_t 677 (by decide +kernel) (by decide +kernel)
theorem fl_RX10_63_6 : gs_FL RX10 63 "GrainShift$Settings" 6 1 (RX7, TX7, 3) := ⟨rfl, by decide, gs_t 159 (by decide +kernel) (by decide +kernel), Or.inl rfl⟩
theorem mf_X10_lean : gs_MF yX10_lean cX10_lean 2 (some .int) 0 := ⟨gs_t 675 (by decide +kernel) (by decide +kernel), gs_t 9 (by decide +kernel) (by decide +kernel), by decide, by decide, by decide +kernel, by decide, by decide⟩
theorem fl_RX10_66_1 : gs_FL RX10 66 "GrainShift$Hold" 1 5 (RX1, TX1, 14) := ⟨rfl, by decide, gs_t 196 (by decide +kernel) (by decide +kernel), Or.inl rfl⟩
theorem mm_RX10_69 : Cond.methodLink RX10 69 Lib.Math.max.name ∈ gs_tbl := gs_t 999 (by decide +kernel) (by decide +kernel)
theorem mf_X10_mostShaken : gs_MF yX10_mostShaken cX10_mostShaken 3 (some .int) 0 := ⟨gs_t 998 (by decide +kernel) (by decide +kernel), gs_t 9 (by decide +kernel) (by decide +kernel), by decide, by decide, by decide +kernel, by decide, by decide⟩
theorem fl_RX10_75_1 : gs_FL RX10 75 "GrainShift$Hold" 1 6 (RX1, TX1, 14) := ⟨rfl, by decide, gs_t 199 (by decide +kernel) (by decide +kernel), Or.inl rfl⟩
theorem mf_X10_wentRight : gs_MF yX10_wentRight cX10_wentRight 3 (some .int) 0 := ⟨gs_t 705 (by decide +kernel) (by decide +kernel), gs_t 9 (by decide +kernel) (by decide +kernel), by decide, by decide, by decide +kernel, by decide, by decide⟩
theorem fl_RX10_78_1 : gs_FL RX10 78 "GrainShift$Hold" 1 7 (RX1, TX1, 14) := ⟨rfl, by decide, gs_t 202 (by decide +kernel) (by decide +kernel), Or.inl rfl⟩
theorem mf_X10_wentLeft : gs_MF yX10_wentLeft cX10_wentLeft 3 (some .int) 0 := ⟨gs_t 709 (by decide +kernel) (by decide +kernel), gs_t 9 (by decide +kernel) (by decide +kernel), by decide, by decide, by decide +kernel, by decide, by decide⟩
theorem se_9_RX10_X10_lean : Cond.selects RX10 yX10_lean yX10_lean ∈ gs_tbl := gs_t 674 (by decide +kernel) (by decide +kernel)
theorem ml_RX10_84 : Cond.methodLink RX10 84 yX10_lean ∈ gs_tbl := gs_t 672 (by decide +kernel) (by decide +kernel)
theorem im_X10_lean : Cond.instanceMethod yX10_lean ∈ gs_tbl := gs_t 673 (by decide +kernel) (by decide +kernel)
theorem mm_RX10_108 : Cond.methodLink RX10 108 Lib.Math.abs.name ∈ gs_tbl := gs_t 699 (by decide +kernel) (by decide +kernel)
theorem ms_abs : Cond.static Lib.Math.abs.name ∈ gs_tbl := gs_t 700 (by decide +kernel) (by decide +kernel)
theorem mc_abs : Cond.code Lib.Math.abs.name Lib.Math.abs.code 1 (some .int) ∈ gs_tbl := gs_t 701 (by decide +kernel) (by decide +kernel)
theorem fl_RX10_111_6 : gs_FL RX10 111 "GrainShift$Settings" 6 2 (RX7, TX7, 3) := ⟨rfl, by decide, gs_t 163 (by decide +kernel) (by decide +kernel), Or.inl rfl⟩
theorem mf_X10_isTooFar : gs_MF yX10_isTooFar cX10_isTooFar 1 (some .boolean) 0 := ⟨gs_t 698 (by decide +kernel) (by decide +kernel), gs_t 9 (by decide +kernel) (by decide +kernel), by decide, by decide, by decide +kernel, by decide, by decide⟩
theorem mn_RX10_101 : Cond.methodLinkNest RX10 101 yX11_heldSlope "GrainShift" ∈ gs_nest := gs_n 688 (by decide +kernel) (by decide +kernel)
theorem ss_X11_heldSlope : Cond.static yX11_heldSlope ∈ gs_tbl := gs_t 689 (by decide +kernel) (by decide +kernel)
theorem ml_RX10_105 : Cond.methodLink RX10 105 yX1_restWith ∈ gs_tbl := gs_t 694 (by decide +kernel) (by decide +kernel)
theorem mf_X10_restAll : gs_MF yX10_restAll cX10_restAll 4 none 1 := ⟨gs_t 687 (by decide +kernel) (by decide +kernel), gs_t 9 (by decide +kernel) (by decide +kernel), by decide, by decide, by decide +kernel, by decide, by decide⟩
theorem se_9_RX10_X10_restAll : Cond.selects RX10 yX10_restAll yX10_restAll ∈ gs_tbl := gs_s 21 (by decide +kernel) (by decide +kernel)
theorem ml_RX10_87 : Cond.methodLink RX10 87 yX10_restAll ∈ gs_tbl := gs_t 684 (by decide +kernel) (by decide +kernel)
theorem im_X10_restAll : Cond.instanceMethod yX10_restAll ∈ gs_tbl := gs_t 686 (by decide +kernel) (by decide +kernel)
theorem se_9_RX10_X10_isTooFar : Cond.selects RX10 yX10_isTooFar yX10_isTooFar ∈ gs_tbl := gs_s 22 (by decide +kernel) (by decide +kernel)
theorem ml_RX10_91 : Cond.methodLink RX10 91 yX10_isTooFar ∈ gs_tbl := gs_t 695 (by decide +kernel) (by decide +kernel)
theorem im_X10_isTooFar : Cond.instanceMethod yX10_isTooFar ∈ gs_tbl := gs_t 697 (by decide +kernel) (by decide +kernel)
theorem se_9_RX10_X10_wentRight : Cond.selects RX10 yX10_wentRight yX10_wentRight ∈ gs_tbl := gs_t 704 (by decide +kernel) (by decide +kernel)
theorem ml_RX10_95 : Cond.methodLink RX10 95 yX10_wentRight ∈ gs_tbl := gs_t 702 (by decide +kernel) (by decide +kernel)
theorem im_X10_wentRight : Cond.instanceMethod yX10_wentRight ∈ gs_tbl := gs_t 703 (by decide +kernel) (by decide +kernel)
theorem se_9_RX10_X10_wentLeft : Cond.selects RX10 yX10_wentLeft yX10_wentLeft ∈ gs_tbl := gs_t 708 (by decide +kernel) (by decide +kernel)
theorem ml_RX10_98 : Cond.methodLink RX10 98 yX10_wentLeft ∈ gs_tbl := gs_t 706 (by decide +kernel) (by decide +kernel)
theorem im_X10_wentLeft : Cond.instanceMethod yX10_wentLeft ∈ gs_tbl := gs_t 707 (by decide +kernel) (by decide +kernel)
theorem ml_RX10_81 : Cond.methodLink RX10 81 yX1_clearCounts ∈ gs_tbl := gs_t 671 (by decide +kernel) (by decide +kernel)
theorem mf_X10_rollBy : gs_MF yX10_rollBy cX10_rollBy 3 (some .int) 1 := ⟨gs_t 670 (by decide +kernel) (by decide +kernel), gs_t 9 (by decide +kernel) (by decide +kernel), by decide, by decide, by decide +kernel, by decide, by decide⟩
theorem mf_X10_heelBy : gs_MF yX10_heelBy cX10_heelBy 3 (some .int) 1 := ⟨gs_t 933 (by decide +kernel) (by decide +kernel), gs_t 9 (by decide +kernel) (by decide +kernel), by decide, by decide, by decide +kernel, by decide, by decide⟩
theorem kl_RX10_114 : Cond.constantLong RX10 114 (6364136223846793005) ∈ gs_tbl := gs_t 726 (by decide +kernel) (by decide +kernel)
theorem kl_RX10_116 : Cond.constantLong RX10 116 (1442695040888963407) ∈ gs_tbl := gs_t 727 (by decide +kernel) (by decide +kernel)
theorem kl_RX10_118 : Cond.constantLong RX10 118 (6) ∈ gs_tbl := gs_t 728 (by decide +kernel) (by decide +kernel)
theorem mf_X10_drawOfSix : gs_MF yX10_drawOfSix cX10_drawOfSix 1 (some .int) 0 := ⟨gs_t 725 (by decide +kernel) (by decide +kernel), gs_t 9 (by decide +kernel) (by decide +kernel), by decide, by decide, by decide +kernel, by decide, by decide⟩
theorem se_1_RX1_X1_settleOneDay : Cond.selects RX1 yX1_settleOneDay yX1_settleOneDay ∈ gs_tbl := gs_t 720 (by decide +kernel) (by decide +kernel)
theorem ml_RX10_120 : Cond.methodLink RX10 120 yX1_settleOneDay ∈ gs_tbl := gs_t 718 (by decide +kernel) (by decide +kernel)
theorem im_X1_settleOneDay : Cond.instanceMethod yX1_settleOneDay ∈ gs_tbl := gs_t 719 (by decide +kernel) (by decide +kernel)
theorem se_9_RX10_X10_drawOfSix : Cond.selects RX10 yX10_drawOfSix yX10_drawOfSix ∈ gs_tbl := gs_s 23 (by decide +kernel) (by decide +kernel)
theorem ml_RX10_123 : Cond.methodLink RX10 123 yX10_drawOfSix ∈ gs_tbl := gs_t 722 (by decide +kernel) (by decide +kernel)
theorem im_X10_drawOfSix : Cond.instanceMethod yX10_drawOfSix ∈ gs_tbl := gs_t 724 (by decide +kernel) (by decide +kernel)
theorem se_9_RX10_X10_rollBy : Cond.selects RX10 yX10_rollBy yX10_rollBy ∈ gs_tbl := gs_t 669 (by decide +kernel) (by decide +kernel)
theorem ml_RX10_126 : Cond.methodLink RX10 126 yX10_rollBy ∈ gs_tbl := gs_t 729 (by decide +kernel) (by decide +kernel)
theorem im_X10_rollBy : Cond.instanceMethod yX10_rollBy ∈ gs_tbl := gs_t 668 (by decide +kernel) (by decide +kernel)
theorem mf_X10_sail : gs_MF yX10_sail cX10_sail 5 none 2 := ⟨gs_t 717 (by decide +kernel) (by decide +kernel), gs_t 9 (by decide +kernel) (by decide +kernel), by decide, by decide, by decide +kernel, by decide, by decide⟩
theorem d_X10_isLoaded_0 : gd cX10_isLoaded 0 (.aload_n 0) 1 1 := ⟨by decide +kernel, rfl⟩
theorem d_X10_isLoaded_1 : gd cX10_isLoaded 1 (.getfield 22) 3 4 := ⟨by decide +kernel, rfl⟩
theorem d_X10_isLoaded_4 : gd cX10_isLoaded 4 (.ifCond .le 7) 3 7 := ⟨by decide +kernel, rfl⟩
theorem d_X10_isLoaded_7 : gd cX10_isLoaded 7 (.iconst 1) 1 8 := ⟨by decide +kernel, rfl⟩
theorem d_X10_isLoaded_8 : gd cX10_isLoaded 8 (.goto 4) 3 11 := ⟨by decide +kernel, rfl⟩
theorem d_X10_isLoaded_11 : gd cX10_isLoaded 11 (.iconst 0) 1 12 := ⟨by decide +kernel, rfl⟩
theorem d_X10_isLoaded_12 : gd cX10_isLoaded 12 .ireturn 1 13 := ⟨by decide +kernel, rfl⟩
def D_X10_isLoaded (a0 : Nat) (μ : gs_M) : Option (Int32 × gs_M) :=
  if (gI μ a0 1) ≤ 0 then (some ((0 : Int32), μ)) else (some ((1 : Int32), μ))
section S_X10_isLoaded
variable {p : Program} {l : Launch} {e : Env} {R : Room} {s : State} {m : MethodId} {args : Array Value} {below : List Frame} {meth : Method} {c : Code} {ad : Nat → Nat} {g : va_G} {tyc : Nat → ClassId}
set_option maxRecDepth 20000 in
theorem C_X10_isLoaded  {a0 : Nat} {μ : gs_M} {r : Int32} {μ2 : gs_M} (hk0 : kd a0 = 9) (hD : D_X10_isLoaded a0 μ = some (r, μ2)) : CALL yX10_isLoaded cX10_isLoaded 1 (some .boolean) 0 [.ref a0] μ (some (.int r)) μ2 := by
  unfold D_X10_isLoaded at hD
  refine gs_enter mf_X10_isLoaded (Nat.le_of_ble_eq_true rfl) (ls := [.ref a0]) rfl (fun p l e R s m args below meth c ad g tyc hK => ?_)
  have hK : KC p R s m args meth c ad g tyc RX10 cX10_isLoaded 1 (some .boolean) 0 := hK
  refine r_aload_n hK d_X10_isLoaded_0 rfl rfl ?_
  refine r_getI hK d_X10_isLoaded_1 fl_RX10_22_9 rfl hk0 ?_
  refine r_if_le (tgt := 11) hK d_X10_isLoaded_4 (by decide) (fun h1 => ?_) (fun h1 => ?_)
  · have hD := if_t hD h1
    refine r_iconst hK d_X10_isLoaded_11 ci_0 ?_
    cases hD
    exact r_zret hK (Or.inl rfl) d_X10_isLoaded_12
  · have hD := if_f hD h1
    refine r_iconst hK d_X10_isLoaded_7 ci_1 ?_
    refine r_goto (tgt := 12) hK d_X10_isLoaded_8 (by decide) ?_
    cases hD
    exact r_zret hK (Or.inr rfl) d_X10_isLoaded_12
end S_X10_isLoaded
theorem d_X10_hasHold_0 : gd cX10_hasHold 0 (.iload_n 1) 1 1 := ⟨by decide +kernel, rfl⟩
theorem d_X10_hasHold_1 : gd cX10_hasHold 1 (.ifCond .lt 15) 3 4 := ⟨by decide +kernel, rfl⟩
theorem d_X10_hasHold_4 : gd cX10_hasHold 4 (.iload_n 1) 1 5 := ⟨by decide +kernel, rfl⟩
theorem d_X10_hasHold_5 : gd cX10_hasHold 5 (.aload_n 0) 1 6 := ⟨by decide +kernel, rfl⟩
theorem d_X10_hasHold_6 : gd cX10_hasHold 6 (.getfield 22) 3 9 := ⟨by decide +kernel, rfl⟩
theorem d_X10_hasHold_9 : gd cX10_hasHold 9 (.if_icmp .ge 7) 3 12 := ⟨by decide +kernel, rfl⟩
theorem d_X10_hasHold_12 : gd cX10_hasHold 12 (.iconst 1) 1 13 := ⟨by decide +kernel, rfl⟩
theorem d_X10_hasHold_13 : gd cX10_hasHold 13 (.goto 4) 3 16 := ⟨by decide +kernel, rfl⟩
theorem d_X10_hasHold_16 : gd cX10_hasHold 16 (.iconst 0) 1 17 := ⟨by decide +kernel, rfl⟩
theorem d_X10_hasHold_17 : gd cX10_hasHold 17 .ireturn 1 18 := ⟨by decide +kernel, rfl⟩
def B_X10_hasHold_16   (μ : gs_M) : Option (Int32 × gs_M) :=
  some ((0 : Int32), μ)
def D_X10_hasHold (a0 : Nat) (x1 : Int32) (μ : gs_M) : Option (Int32 × gs_M) :=
  if x1 < 0 then (B_X10_hasHold_16 μ) else (if (gI μ a0 1) ≤ x1 then (B_X10_hasHold_16 μ) else (some ((1 : Int32), μ)))
section S_X10_hasHold
variable {p : Program} {l : Launch} {e : Env} {R : Room} {s : State} {m : MethodId} {args : Array Value} {below : List Frame} {meth : Method} {c : Code} {ad : Nat → Nat} {g : va_G} {tyc : Nat → ClassId}
set_option maxRecDepth 20000 in
theorem T_X10_hasHold_16  (hK : KC p R s m args meth c ad g tyc RX10 cX10_hasHold 2 (some .boolean) 0) {r : Int32} {μ2 : gs_M}    {μ : gs_M}  (hD : B_X10_hasHold_16   μ = some (r, μ2)) : WJ p l e R s m args below meth c 0 0 (MQ below (gs_Q ad g tyc (some (.int r)) μ2) args s 0 0 (gs_A ad)) ad g tyc 2 16 [gs_J, gs_J] [] μ := by
  unfold B_X10_hasHold_16 at hD
  refine r_iconst hK d_X10_hasHold_16 ci_0 ?_
  cases hD
  exact r_zret hK (Or.inl rfl) d_X10_hasHold_17
set_option maxRecDepth 20000 in
theorem C_X10_hasHold  {a0 : Nat} {x1 : Int32} {μ : gs_M} {r : Int32} {μ2 : gs_M} (hk0 : kd a0 = 9) (hD : D_X10_hasHold a0 x1 μ = some (r, μ2)) : CALL yX10_hasHold cX10_hasHold 2 (some .boolean) 0 [.ref a0, .int x1] μ (some (.int r)) μ2 := by
  unfold D_X10_hasHold at hD
  refine gs_enter mf_X10_hasHold (Nat.le_of_ble_eq_true rfl) (ls := [.ref a0, .int x1]) rfl (fun p l e R s m args below meth c ad g tyc hK => ?_)
  have hK : KC p R s m args meth c ad g tyc RX10 cX10_hasHold 2 (some .boolean) 0 := hK
  refine r_iload_n hK d_X10_hasHold_0 rfl rfl ?_
  refine r_if_lt (tgt := 16) hK d_X10_hasHold_1 (by decide) (fun h1 => ?_) (fun h1 => ?_)
  · have hD := if_t hD h1
    refine r_junk [false, false] (ls2 := [gs_J, gs_J]) rfl ?_
    exact T_X10_hasHold_16 hK   hD
  · have hD := if_f hD h1
    refine r_iload_n hK d_X10_hasHold_4 rfl rfl ?_
    refine r_aload_n hK d_X10_hasHold_5 rfl rfl ?_
    refine r_getI hK d_X10_hasHold_6 fl_RX10_22_9 rfl hk0 ?_
    refine r_icmp_ge (tgt := 16) hK d_X10_hasHold_9 (by decide) (fun h2 => ?_) (fun h2 => ?_)
    · have hD := if_t hD h2
      refine r_junk [false, false] (ls2 := [gs_J, gs_J]) rfl ?_
      exact T_X10_hasHold_16 hK   hD
    · have hD := if_f hD h2
      refine r_iconst hK d_X10_hasHold_12 ci_1 ?_
      refine r_goto (tgt := 17) hK d_X10_hasHold_13 (by decide) ?_
      cases hD
      exact r_zret hK (Or.inr rfl) d_X10_hasHold_17
end S_X10_hasHold
theorem d_X10_hasColumn_0 : gd cX10_hasColumn 0 (.aload_n 0) 1 1 := ⟨by decide +kernel, rfl⟩
theorem d_X10_hasColumn_1 : gd cX10_hasColumn 1 (.iload_n 1) 1 2 := ⟨by decide +kernel, rfl⟩
theorem d_X10_hasColumn_2 : gd cX10_hasColumn 2 (.invokevirtual 26) 3 5 := ⟨by decide +kernel, rfl⟩
theorem d_X10_hasColumn_5 : gd cX10_hasColumn 5 (.ifCond .eq 24) 3 8 := ⟨by decide +kernel, rfl⟩
theorem d_X10_hasColumn_8 : gd cX10_hasColumn 8 (.iload_n 2) 1 9 := ⟨by decide +kernel, rfl⟩
theorem d_X10_hasColumn_9 : gd cX10_hasColumn 9 (.ifCond .lt 20) 3 12 := ⟨by decide +kernel, rfl⟩
theorem d_X10_hasColumn_12 : gd cX10_hasColumn 12 (.iload_n 2) 1 13 := ⟨by decide +kernel, rfl⟩
theorem d_X10_hasColumn_13 : gd cX10_hasColumn 13 (.aload_n 0) 1 14 := ⟨by decide +kernel, rfl⟩
theorem d_X10_hasColumn_14 : gd cX10_hasColumn 14 (.getfield 12) 3 17 := ⟨by decide +kernel, rfl⟩
theorem d_X10_hasColumn_17 : gd cX10_hasColumn 17 (.iload_n 1) 1 18 := ⟨by decide +kernel, rfl⟩
theorem d_X10_hasColumn_18 : gd cX10_hasColumn 18 .aaload 1 19 := ⟨by decide +kernel, rfl⟩
theorem d_X10_hasColumn_19 : gd cX10_hasColumn 19 (.getfield 30) 3 22 := ⟨by decide +kernel, rfl⟩
theorem d_X10_hasColumn_22 : gd cX10_hasColumn 22 (.if_icmp .ge 7) 3 25 := ⟨by decide +kernel, rfl⟩
theorem d_X10_hasColumn_25 : gd cX10_hasColumn 25 (.iconst 1) 1 26 := ⟨by decide +kernel, rfl⟩
theorem d_X10_hasColumn_26 : gd cX10_hasColumn 26 (.goto 4) 3 29 := ⟨by decide +kernel, rfl⟩
theorem d_X10_hasColumn_29 : gd cX10_hasColumn 29 (.iconst 0) 1 30 := ⟨by decide +kernel, rfl⟩
theorem d_X10_hasColumn_30 : gd cX10_hasColumn 30 .ireturn 1 31 := ⟨by decide +kernel, rfl⟩
def B_X10_hasColumn_29   (μ : gs_M) : Option (Int32 × gs_M) :=
  some ((0 : Int32), μ)
def D_X10_hasColumn (a0 : Nat) (x1 : Int32) (x2 : Int32) (μ : gs_M) : Option (Int32 × gs_M) :=
  bd (D_X10_hasHold a0 x1 μ) (fun v3 u2 => if v3 = 0 then (B_X10_hasColumn_29 u2) else (if x2 < 0 then (B_X10_hasColumn_29 u2) else (ck (inb x1 4) (if (gI u2 (a0 + 2 + 2 * Int32.toNatClampNeg x1) 1) ≤ x2 then (B_X10_hasColumn_29 u2) else (some ((1 : Int32), u2))))))
section S_X10_hasColumn
variable {p : Program} {l : Launch} {e : Env} {R : Room} {s : State} {m : MethodId} {args : Array Value} {below : List Frame} {meth : Method} {c : Code} {ad : Nat → Nat} {g : va_G} {tyc : Nat → ClassId}
set_option maxRecDepth 20000 in
theorem T_X10_hasColumn_29  (hK : KC p R s m args meth c ad g tyc RX10 cX10_hasColumn 3 (some .boolean) 1) {r : Int32} {μ2 : gs_M}    {μ : gs_M}  (hD : B_X10_hasColumn_29   μ = some (r, μ2)) : WJ p l e R s m args below meth c 0 0 (MQ below (gs_Q ad g tyc (some (.int r)) μ2) args s 0 0 (gs_A ad)) ad g tyc 3 29 [gs_J, gs_J, gs_J] [] μ := by
  unfold B_X10_hasColumn_29 at hD
  refine r_iconst hK d_X10_hasColumn_29 ci_0 ?_
  cases hD
  exact r_zret hK (Or.inl rfl) d_X10_hasColumn_30
set_option maxRecDepth 20000 in
theorem C_X10_hasColumn  {a0 : Nat} {x1 : Int32} {x2 : Int32} {μ : gs_M} {r : Int32} {μ2 : gs_M} (hk0 : kd a0 = 9) (hD : D_X10_hasColumn a0 x1 x2 μ = some (r, μ2)) : CALL yX10_hasColumn cX10_hasColumn 3 (some .boolean) 1 [.ref a0, .int x1, .int x2] μ (some (.int r)) μ2 := by
  unfold D_X10_hasColumn at hD
  refine gs_enter mf_X10_hasColumn (Nat.le_of_ble_eq_true rfl) (ls := [.ref a0, .int x1, .int x2]) rfl (fun p l e R s m args below meth c ad g tyc hK => ?_)
  have hK : KC p R s m args meth c ad g tyc RX10 cX10_hasColumn 3 (some .boolean) 1 := hK
  refine r_aload_n hK d_X10_hasColumn_0 rfl rfl ?_
  refine r_iload_n hK d_X10_hasColumn_1 rfl rfl ?_
  obtain ⟨v3, u2, e1, hD⟩ := bd_e hD
  refine r_callV (As := [.int x1]) (st := []) (stk2 := [.int v3]) hK (C_X10_hasHold hk0 e1) d_X10_hasColumn_2 mf_X10_hasHold ml_RX10_26 im_X10_hasHold rfl se_9_RX10_X10_hasHold hk0 rfl (Nat.le_of_ble_eq_true rfl) (by decide) ⟨Nat.zero_le _, Nat.zero_le _⟩ rfl rfl ?_
  refine r_if_eq (tgt := 29) hK d_X10_hasColumn_5 (by decide) (fun h4 => ?_) (fun h4 => ?_)
  · have hD := if_t hD h4
    refine r_junk [false, false, false] (ls2 := [gs_J, gs_J, gs_J]) rfl ?_
    exact T_X10_hasColumn_29 hK   hD
  · have hD := if_f hD h4
    refine r_iload_n hK d_X10_hasColumn_8 rfl rfl ?_
    refine r_if_lt (tgt := 29) hK d_X10_hasColumn_9 (by decide) (fun h5 => ?_) (fun h5 => ?_)
    · have hD := if_t hD h5
      refine r_junk [false, false, false] (ls2 := [gs_J, gs_J, gs_J]) rfl ?_
      exact T_X10_hasColumn_29 hK   hD
    · have hD := if_f hD h5
      refine r_iload_n hK d_X10_hasColumn_12 rfl rfl ?_
      refine r_aload_n hK d_X10_hasColumn_13 rfl rfl ?_
      refine r_getR hK d_X10_hasColumn_14 fl_RX10_12_9 rfl hk0 ?_
      refine r_ref (b := (a0 + 1)) ((ly_ves _ hk0).1.1) ?_
      refine r_iload_n hK d_X10_hasColumn_17 rfl rfl ?_
      obtain ⟨h6, hD⟩ := ck_e hD
      refine r_aaldH hK d_X10_hasColumn_18 ((ly_ves _ hk0).1.2.1) ((ly_ves _ hk0).1.2.2) (inb_in h6) ?_
      refine r_ref (b := (a0 + 2 + 2 * Int32.toNatClampNeg x1)) ((ly_vh _ hk0 _ (inb_lt h6)).1) ?_
      refine r_getI hK d_X10_hasColumn_19 fl_RX10_30_1 rfl ((ly_vh _ hk0 _ (inb_lt h6)).2) ?_
      refine r_icmp_ge (tgt := 29) hK d_X10_hasColumn_22 (by decide) (fun h7 => ?_) (fun h7 => ?_)
      · have hD := if_t hD h7
        refine r_junk [false, false, false] (ls2 := [gs_J, gs_J, gs_J]) rfl ?_
        exact T_X10_hasColumn_29 hK   hD
      · have hD := if_f hD h7
        refine r_iconst hK d_X10_hasColumn_25 ci_1 ?_
        refine r_goto (tgt := 30) hK d_X10_hasColumn_26 (by decide) ?_
        cases hD
        exact r_zret hK (Or.inr rfl) d_X10_hasColumn_30
end S_X10_hasColumn
theorem d_X10_startAnew_0 : gd cX10_startAnew 0 (.aload_n 0) 1 1 := ⟨by decide +kernel, rfl⟩
theorem d_X10_startAnew_1 : gd cX10_startAnew 1 (.iload_n 1) 1 2 := ⟨by decide +kernel, rfl⟩
theorem d_X10_startAnew_2 : gd cX10_startAnew 2 (.iconst 4) 1 3 := ⟨by decide +kernel, rfl⟩
theorem d_X10_startAnew_3 : gd cX10_startAnew 3 (.if_icmp .ge 7) 3 6 := ⟨by decide +kernel, rfl⟩
theorem d_X10_startAnew_6 : gd cX10_startAnew 6 (.iload_n 1) 1 7 := ⟨by decide +kernel, rfl⟩
theorem d_X10_startAnew_7 : gd cX10_startAnew 7 (.goto 4) 3 10 := ⟨by decide +kernel, rfl⟩
theorem d_X10_startAnew_10 : gd cX10_startAnew 10 (.iconst 4) 1 11 := ⟨by decide +kernel, rfl⟩
theorem d_X10_startAnew_11 : gd cX10_startAnew 11 (.putfield 22) 3 14 := ⟨by decide +kernel, rfl⟩
theorem d_X10_startAnew_14 : gd cX10_startAnew 14 (.aload_n 0) 1 15 := ⟨by decide +kernel, rfl⟩
theorem d_X10_startAnew_15 : gd cX10_startAnew 15 (.iconst 0) 1 16 := ⟨by decide +kernel, rfl⟩
theorem d_X10_startAnew_16 : gd cX10_startAnew 16 (.putfield 33) 3 19 := ⟨by decide +kernel, rfl⟩
theorem d_X10_startAnew_19 : gd cX10_startAnew 19 (.aload_n 0) 1 20 := ⟨by decide +kernel, rfl⟩
theorem d_X10_startAnew_20 : gd cX10_startAnew 20 (.iconst 0) 1 21 := ⟨by decide +kernel, rfl⟩
theorem d_X10_startAnew_21 : gd cX10_startAnew 21 (.putfield 36) 3 24 := ⟨by decide +kernel, rfl⟩
theorem d_X10_startAnew_24 : gd cX10_startAnew 24 (.aload_n 0) 1 25 := ⟨by decide +kernel, rfl⟩
theorem d_X10_startAnew_25 : gd cX10_startAnew 25 (.iconst 0) 1 26 := ⟨by decide +kernel, rfl⟩
theorem d_X10_startAnew_26 : gd cX10_startAnew 26 (.putfield 39) 3 29 := ⟨by decide +kernel, rfl⟩
theorem d_X10_startAnew_29 : gd cX10_startAnew 29 (.aload_n 0) 1 30 := ⟨by decide +kernel, rfl⟩
theorem d_X10_startAnew_30 : gd cX10_startAnew 30 (.lconst 0) 1 31 := ⟨by decide +kernel, rfl⟩
theorem d_X10_startAnew_31 : gd cX10_startAnew 31 (.putfield 43) 3 34 := ⟨by decide +kernel, rfl⟩
theorem d_X10_startAnew_34 : gd cX10_startAnew 34 .return_ 1 35 := ⟨by decide +kernel, rfl⟩
def B_X10_startAnew_11  (a0 : Nat) (as0 : Nat) (xs1 : Int32) (μ : gs_M) : Option (gs_M) :=
  lt1 (sI μ as0 1 xs1) (fun u1 => lt1 (sI u1 a0 2 (0 : Int32)) (fun u2 => lt1 (sI u2 a0 3 (0 : Int32)) (fun u3 => lt1 (sI u3 a0 4 (0 : Int32)) (fun u4 => lt1 (sL u4 a0 5 (0 : Int64)) (fun u5 => some u5)))))
def D_X10_startAnew (a0 : Nat) (x1 : Int32) (μ : gs_M) : Option (gs_M) :=
  if (4 : Int32) ≤ x1 then (B_X10_startAnew_11 a0 a0 (4 : Int32) μ) else (B_X10_startAnew_11 a0 a0 x1 μ)
section S_X10_startAnew
variable {p : Program} {l : Launch} {e : Env} {R : Room} {s : State} {m : MethodId} {args : Array Value} {below : List Frame} {meth : Method} {c : Code} {ad : Nat → Nat} {g : va_G} {tyc : Nat → ClassId}
set_option maxRecDepth 20000 in
theorem T_X10_startAnew_11  (hK : KC p R s m args meth c ad g tyc RX10 cX10_startAnew 2 none 0) {μ2 : gs_M}   {a0 : Nat} {as0 : Nat} {xs1 : Int32} {μ : gs_M} (hk0 : kd a0 = 9) (hks0 : kd as0 = 9) (hD : B_X10_startAnew_11  a0 as0 xs1 μ = some μ2) : WJ p l e R s m args below meth c 0 0 (MQ below (gs_Q ad g tyc none μ2) args s 0 0 (gs_A ad)) ad g tyc 2 11 [.ref a0, gs_J] [.int xs1, .ref as0] μ := by
  unfold B_X10_startAnew_11 at hD
  refine r_putI hK d_X10_startAnew_11 fl_RX10_22_9 rfl rfl hks0 ?_
  refine r_ltm hD (fun u1 hD => ?_)
  refine r_aload_n hK d_X10_startAnew_14 rfl rfl ?_
  refine r_iconst hK d_X10_startAnew_15 ci_0 ?_
  refine r_putI hK d_X10_startAnew_16 fl_RX10_33_9 rfl rfl hk0 ?_
  refine r_ltm hD (fun u2 hD => ?_)
  refine r_aload_n hK d_X10_startAnew_19 rfl rfl ?_
  refine r_iconst hK d_X10_startAnew_20 ci_0 ?_
  refine r_putI hK d_X10_startAnew_21 fl_RX10_36_9 rfl rfl hk0 ?_
  refine r_ltm hD (fun u3 hD => ?_)
  refine r_aload_n hK d_X10_startAnew_24 rfl rfl ?_
  refine r_iconst hK d_X10_startAnew_25 ci_0 ?_
  refine r_putZ hK d_X10_startAnew_26 fl_RX10_39_9 rfl rfl hk0 (Or.inl rfl) ?_
  refine r_ltm hD (fun u4 hD => ?_)
  refine r_aload_n hK d_X10_startAnew_29 rfl rfl ?_
  refine r_lconst hK d_X10_startAnew_30 cl_0 ?_
  refine r_putL hK d_X10_startAnew_31 fl_RX10_43_9 rfl rfl hk0 ?_
  refine r_ltm hD (fun u5 hD => ?_)
  cases hD
  exact r_vret hK d_X10_startAnew_34
set_option maxRecDepth 20000 in
theorem C_X10_startAnew  {a0 : Nat} {x1 : Int32} {μ : gs_M} {μ2 : gs_M} (hk0 : kd a0 = 9) (hD : D_X10_startAnew a0 x1 μ = some μ2) : CALL yX10_startAnew cX10_startAnew 2 none 0 [.ref a0, .int x1] μ none μ2 := by
  unfold D_X10_startAnew at hD
  refine gs_enter mf_X10_startAnew (Nat.le_of_ble_eq_true rfl) (ls := [.ref a0, .int x1]) rfl (fun p l e R s m args below meth c ad g tyc hK => ?_)
  have hK : KC p R s m args meth c ad g tyc RX10 cX10_startAnew 2 none 0 := hK
  refine r_aload_n hK d_X10_startAnew_0 rfl rfl ?_
  refine r_iload_n hK d_X10_startAnew_1 rfl rfl ?_
  refine r_iconst hK d_X10_startAnew_2 ci_4 ?_
  refine r_icmp_ge (tgt := 10) hK d_X10_startAnew_3 (by decide) (fun h1 => ?_) (fun h1 => ?_)
  · have hD := if_t hD h1
    refine r_iconst hK d_X10_startAnew_10 ci_4 ?_
    refine r_junk [true, false] (ls2 := [.ref a0, gs_J]) rfl ?_
    exact T_X10_startAnew_11 hK  hk0 hk0 hD
  · have hD := if_f hD h1
    refine r_iload_n hK d_X10_startAnew_6 rfl rfl ?_
    refine r_goto (tgt := 11) hK d_X10_startAnew_7 (by decide) ?_
    refine r_junk [true, false] (ls2 := [.ref a0, gs_J]) rfl ?_
    exact T_X10_startAnew_11 hK  hk0 hk0 hD
end S_X10_startAnew
theorem d_X10_become_0 : gd cX10_become 0 (.aload_n 0) 1 1 := ⟨by decide +kernel, rfl⟩
theorem d_X10_become_1 : gd cX10_become 1 (.aload_n 1) 1 2 := ⟨by decide +kernel, rfl⟩
theorem d_X10_become_2 : gd cX10_become 2 (.getfield 22) 3 5 := ⟨by decide +kernel, rfl⟩
theorem d_X10_become_5 : gd cX10_become 5 (.putfield 22) 3 8 := ⟨by decide +kernel, rfl⟩
theorem d_X10_become_8 : gd cX10_become 8 (.aload_n 0) 1 9 := ⟨by decide +kernel, rfl⟩
theorem d_X10_become_9 : gd cX10_become 9 (.aload_n 1) 1 10 := ⟨by decide +kernel, rfl⟩
theorem d_X10_become_10 : gd cX10_become 10 (.getfield 33) 3 13 := ⟨by decide +kernel, rfl⟩
theorem d_X10_become_13 : gd cX10_become 13 (.putfield 33) 3 16 := ⟨by decide +kernel, rfl⟩
theorem d_X10_become_16 : gd cX10_become 16 (.aload_n 0) 1 17 := ⟨by decide +kernel, rfl⟩
theorem d_X10_become_17 : gd cX10_become 17 (.aload_n 1) 1 18 := ⟨by decide +kernel, rfl⟩
theorem d_X10_become_18 : gd cX10_become 18 (.getfield 36) 3 21 := ⟨by decide +kernel, rfl⟩
theorem d_X10_become_21 : gd cX10_become 21 (.putfield 36) 3 24 := ⟨by decide +kernel, rfl⟩
theorem d_X10_become_24 : gd cX10_become 24 (.aload_n 0) 1 25 := ⟨by decide +kernel, rfl⟩
theorem d_X10_become_25 : gd cX10_become 25 (.aload_n 1) 1 26 := ⟨by decide +kernel, rfl⟩
theorem d_X10_become_26 : gd cX10_become 26 (.getfield 39) 3 29 := ⟨by decide +kernel, rfl⟩
theorem d_X10_become_29 : gd cX10_become 29 (.putfield 39) 3 32 := ⟨by decide +kernel, rfl⟩
theorem d_X10_become_32 : gd cX10_become 32 (.aload_n 0) 1 33 := ⟨by decide +kernel, rfl⟩
theorem d_X10_become_33 : gd cX10_become 33 (.aload_n 1) 1 34 := ⟨by decide +kernel, rfl⟩
theorem d_X10_become_34 : gd cX10_become 34 (.getfield 43) 3 37 := ⟨by decide +kernel, rfl⟩
theorem d_X10_become_37 : gd cX10_become 37 (.putfield 43) 3 40 := ⟨by decide +kernel, rfl⟩
theorem d_X10_become_40 : gd cX10_become 40 (.iconst 0) 1 41 := ⟨by decide +kernel, rfl⟩
theorem d_X10_become_41 : gd cX10_become 41 (.istore_n 2) 1 42 := ⟨by decide +kernel, rfl⟩
theorem d_X10_become_42 : gd cX10_become 42 (.iload_n 2) 1 43 := ⟨by decide +kernel, rfl⟩
theorem d_X10_become_43 : gd cX10_become 43 (.aload_n 0) 1 44 := ⟨by decide +kernel, rfl⟩
theorem d_X10_become_44 : gd cX10_become 44 (.getfield 22) 3 47 := ⟨by decide +kernel, rfl⟩
theorem d_X10_become_47 : gd cX10_become 47 (.if_icmp .ge 24) 3 50 := ⟨by decide +kernel, rfl⟩
theorem d_X10_become_50 : gd cX10_become 50 (.aload_n 0) 1 51 := ⟨by decide +kernel, rfl⟩
theorem d_X10_become_51 : gd cX10_become 51 (.getfield 12) 3 54 := ⟨by decide +kernel, rfl⟩
theorem d_X10_become_54 : gd cX10_become 54 (.iload_n 2) 1 55 := ⟨by decide +kernel, rfl⟩
theorem d_X10_become_55 : gd cX10_become 55 .aaload 1 56 := ⟨by decide +kernel, rfl⟩
theorem d_X10_become_56 : gd cX10_become 56 (.aload_n 1) 1 57 := ⟨by decide +kernel, rfl⟩
theorem d_X10_become_57 : gd cX10_become 57 (.getfield 12) 3 60 := ⟨by decide +kernel, rfl⟩
theorem d_X10_become_60 : gd cX10_become 60 (.iload_n 2) 1 61 := ⟨by decide +kernel, rfl⟩
theorem d_X10_become_61 : gd cX10_become 61 .aaload 1 62 := ⟨by decide +kernel, rfl⟩
theorem d_X10_become_62 : gd cX10_become 62 (.invokevirtual 47) 3 65 := ⟨by decide +kernel, rfl⟩
theorem d_X10_become_65 : gd cX10_become 65 (.iinc 2 1) 3 68 := ⟨by decide +kernel, rfl⟩
theorem d_X10_become_68 : gd cX10_become 68 (.goto (-26)) 3 71 := ⟨by decide +kernel, rfl⟩
theorem d_X10_become_71 : gd cX10_become 71 .return_ 1 72 := ⟨by decide +kernel, rfl⟩
def Bo_X10_become_42 (q42 : Nat → Nat → Int32 → gs_M → Option (gs_M)) (a0 : Nat) (a1 : Nat) (x2 : Int32) (μ : gs_M) : Option (gs_M) :=
  if (gI μ a0 1) ≤ x2 then (some μ) else (ck (inb x2 4) (ck (inb x2 4) (bd0 (D_X1_become (a0 + 2 + 2 * Int32.toNatClampNeg x2) (a1 + 2 + 2 * Int32.toNatClampNeg x2) μ) (fun u5 => q42 a0 a1 (x2 + (1 : Int32)) u5))))
def L_X10_become_42  : Nat → Nat → Nat → Int32 → gs_M → Option (gs_M)
  | 0 => fun _ _ _ _ => none
  | n + 1 => fun a0 a1 x2 μ => Bo_X10_become_42  (L_X10_become_42  n) a0 a1 x2 μ
def D_X10_become (a0 : Nat) (a1 : Nat) (μ : gs_M) : Option (gs_M) :=
  lt1 (sI μ a0 1 (gI μ a1 1)) (fun u1 => lt1 (sI u1 a0 2 (gI u1 a1 2)) (fun u2 => lt1 (sI u2 a0 3 (gI u2 a1 3)) (fun u3 => ck (zb (gI u3 a1 4)) (lt1 (sI u3 a0 4 (gI u3 a1 4)) (fun u4 => lt1 (sL u4 a0 5 (gL u4 a1 5)) (fun u6 => L_X10_become_42 4096 a0 a1 (0 : Int32) u6))))))
section S_X10_become
variable {p : Program} {l : Launch} {e : Env} {R : Room} {s : State} {m : MethodId} {args : Array Value} {below : List Frame} {meth : Method} {c : Code} {ad : Nat → Nat} {g : va_G} {tyc : Nat → ClassId}
set_option maxRecDepth 20000 in
theorem To_X10_become_42  (hK : KC p R s m args meth c ad g tyc RX10 cX10_become 3 none 2) {μ2 : gs_M} {q42 : Nat → Nat → Int32 → gs_M → Option (gs_M)} (hq42 : ∀ (a0 : Nat) (a1 : Nat) (x2 : Int32) (μ : gs_M), kd a0 = 9 → kd a1 = 9 → q42 a0 a1 x2 μ = some μ2 → WJ p l e R s m args below meth c 0 0 (MQ below (gs_Q ad g tyc none μ2) args s 0 0 (gs_A ad)) ad g tyc 3 42 [.ref a0, .ref a1, .int x2] [] μ) {a0 : Nat} {a1 : Nat} {x2 : Int32} {μ : gs_M} (hk0 : kd a0 = 9) (hk1 : kd a1 = 9) (hD : Bo_X10_become_42 q42 a0 a1 x2 μ = some μ2) : WJ p l e R s m args below meth c 0 0 (MQ below (gs_Q ad g tyc none μ2) args s 0 0 (gs_A ad)) ad g tyc 3 42 [.ref a0, .ref a1, .int x2] [] μ := by
  unfold Bo_X10_become_42 at hD
  refine r_iload_n hK d_X10_become_42 rfl rfl ?_
  refine r_aload_n hK d_X10_become_43 rfl rfl ?_
  refine r_getI hK d_X10_become_44 fl_RX10_22_9 rfl hk0 ?_
  refine r_icmp_ge (tgt := 71) hK d_X10_become_47 (by decide) (fun h1 => ?_) (fun h1 => ?_)
  · have hD := if_t hD h1
    cases hD
    exact r_vret hK d_X10_become_71
  · have hD := if_f hD h1
    refine r_aload_n hK d_X10_become_50 rfl rfl ?_
    refine r_getR hK d_X10_become_51 fl_RX10_12_9 rfl hk0 ?_
    refine r_ref (b := (a0 + 1)) ((ly_ves _ hk0).1.1) ?_
    refine r_iload_n hK d_X10_become_54 rfl rfl ?_
    obtain ⟨h2, hD⟩ := ck_e hD
    refine r_aaldH hK d_X10_become_55 ((ly_ves _ hk0).1.2.1) ((ly_ves _ hk0).1.2.2) (inb_in h2) ?_
    refine r_ref (b := (a0 + 2 + 2 * Int32.toNatClampNeg x2)) ((ly_vh _ hk0 _ (inb_lt h2)).1) ?_
    refine r_aload_n hK d_X10_become_56 rfl rfl ?_
    refine r_getR hK d_X10_become_57 fl_RX10_12_9 rfl hk1 ?_
    refine r_ref (b := (a1 + 1)) ((ly_ves _ hk1).1.1) ?_
    refine r_iload_n hK d_X10_become_60 rfl rfl ?_
    obtain ⟨h3, hD⟩ := ck_e hD
    refine r_aaldH hK d_X10_become_61 ((ly_ves _ hk1).1.2.1) ((ly_ves _ hk1).1.2.2) (inb_in h3) ?_
    refine r_ref (b := (a1 + 2 + 2 * Int32.toNatClampNeg x2)) ((ly_vh _ hk1 _ (inb_lt h3)).1) ?_
    obtain ⟨u5, e4, hD⟩ := bd0_e hD
    refine r_callV (As := [.ref (a1 + 2 + 2 * Int32.toNatClampNeg x2)]) (st := []) (stk2 := []) hK (C_X1_become ((ly_vh _ hk0 _ (inb_lt h2)).2) ((ly_vh _ hk1 _ (inb_lt h3)).2) e4) d_X10_become_62 mf_X1_become ml_RX10_47 im_X1_become rfl se_1_RX1_X1_become ((ly_vh _ hk0 _ (inb_lt h2)).2) rfl (Nat.le_of_ble_eq_true rfl) (by decide) ⟨Nat.zero_le _, Nat.zero_le _⟩ rfl rfl ?_
    refine r_iinc hK d_X10_become_65 rfl (v := x2 + (1 : Int32)) (by rw [ci_1]) (by decide) (ls2 := [.ref a0, .ref a1, .int (x2 + (1 : Int32))]) rfl ?_
    refine r_goto (tgt := 42) hK d_X10_become_68 (by decide) ?_
    exact hq42 _ _ _ _ hk0 hk1 hD
set_option maxRecDepth 20000 in
theorem TL_X10_become_42  (hK : KC p R s m args meth c ad g tyc RX10 cX10_become 3 none 2) {μ2 : gs_M}   : ∀ (n : Nat) (a0 : Nat) (a1 : Nat) (x2 : Int32) (μ : gs_M), kd a0 = 9 → kd a1 = 9 → L_X10_become_42  n a0 a1 x2 μ = some μ2 → WJ p l e R s m args below meth c 0 0 (MQ below (gs_Q ad g tyc none μ2) args s 0 0 (gs_A ad)) ad g tyc 3 42 [.ref a0, .ref a1, .int x2] [] μ := by
  intro n
  induction n with
  | zero => intro a0 a1 x2 μ hk0 hk1 hD; cases hD
  | succ n ih => intro a0 a1 x2 μ hk0 hk1 hD; exact To_X10_become_42 hK  ih hk0 hk1 hD
set_option maxRecDepth 20000 in
theorem C_X10_become  {a0 : Nat} {a1 : Nat} {μ : gs_M} {μ2 : gs_M} (hk0 : kd a0 = 9) (hk1 : kd a1 = 9) (hD : D_X10_become a0 a1 μ = some μ2) : CALL yX10_become cX10_become 3 none 2 [.ref a0, .ref a1] μ none μ2 := by
  unfold D_X10_become at hD
  refine gs_enter mf_X10_become (Nat.le_of_ble_eq_true rfl) (ls := [.ref a0, .ref a1, gs_J]) rfl (fun p l e R s m args below meth c ad g tyc hK => ?_)
  have hK : KC p R s m args meth c ad g tyc RX10 cX10_become 3 none 2 := hK
  refine r_aload_n hK d_X10_become_0 rfl rfl ?_
  refine r_aload_n hK d_X10_become_1 rfl rfl ?_
  refine r_getI hK d_X10_become_2 fl_RX10_22_9 rfl hk1 ?_
  refine r_putI hK d_X10_become_5 fl_RX10_22_9 rfl rfl hk0 ?_
  refine r_ltm hD (fun u1 hD => ?_)
  refine r_aload_n hK d_X10_become_8 rfl rfl ?_
  refine r_aload_n hK d_X10_become_9 rfl rfl ?_
  refine r_getI hK d_X10_become_10 fl_RX10_33_9 rfl hk1 ?_
  refine r_putI hK d_X10_become_13 fl_RX10_33_9 rfl rfl hk0 ?_
  refine r_ltm hD (fun u2 hD => ?_)
  refine r_aload_n hK d_X10_become_16 rfl rfl ?_
  refine r_aload_n hK d_X10_become_17 rfl rfl ?_
  refine r_getI hK d_X10_become_18 fl_RX10_36_9 rfl hk1 ?_
  refine r_putI hK d_X10_become_21 fl_RX10_36_9 rfl rfl hk0 ?_
  refine r_ltm hD (fun u3 hD => ?_)
  refine r_aload_n hK d_X10_become_24 rfl rfl ?_
  refine r_aload_n hK d_X10_become_25 rfl rfl ?_
  refine r_getZ hK d_X10_become_26 fl_RX10_39_9 rfl hk1 ?_
  obtain ⟨h5, hD⟩ := ck_e hD
  refine r_putZ hK d_X10_become_29 fl_RX10_39_9 rfl rfl hk0 (zb_e h5) ?_
  refine r_ltm hD (fun u4 hD => ?_)
  refine r_aload_n hK d_X10_become_32 rfl rfl ?_
  refine r_aload_n hK d_X10_become_33 rfl rfl ?_
  refine r_getL hK d_X10_become_34 fl_RX10_43_9 rfl hk1 ?_
  refine r_putL hK d_X10_become_37 fl_RX10_43_9 rfl rfl hk0 ?_
  refine r_ltm hD (fun u6 hD => ?_)
  refine r_iconst hK d_X10_become_40 ci_0 ?_
  refine r_istore_n hK d_X10_become_41 rfl (by decide) (ls2 := [.ref a0, .ref a1, .int (0 : Int32)]) rfl ?_
  exact TL_X10_become_42 hK  _ _ _ _ _ hk0 hk1 hD
end S_X10_become
theorem d_X10_moments_0 : gd cX10_moments 0 (.iconst 0) 1 1 := ⟨by decide +kernel, rfl⟩
theorem d_X10_moments_1 : gd cX10_moments 1 (.istore_n 1) 1 2 := ⟨by decide +kernel, rfl⟩
theorem d_X10_moments_2 : gd cX10_moments 2 (.iconst 0) 1 3 := ⟨by decide +kernel, rfl⟩
theorem d_X10_moments_3 : gd cX10_moments 3 (.istore_n 2) 1 4 := ⟨by decide +kernel, rfl⟩
theorem d_X10_moments_4 : gd cX10_moments 4 (.iload_n 2) 1 5 := ⟨by decide +kernel, rfl⟩
theorem d_X10_moments_5 : gd cX10_moments 5 (.aload_n 0) 1 6 := ⟨by decide +kernel, rfl⟩
theorem d_X10_moments_6 : gd cX10_moments 6 (.getfield 22) 3 9 := ⟨by decide +kernel, rfl⟩
theorem d_X10_moments_9 : gd cX10_moments 9 (.if_icmp .ge 21) 3 12 := ⟨by decide +kernel, rfl⟩
theorem d_X10_moments_12 : gd cX10_moments 12 (.iload_n 1) 1 13 := ⟨by decide +kernel, rfl⟩
theorem d_X10_moments_13 : gd cX10_moments 13 (.aload_n 0) 1 14 := ⟨by decide +kernel, rfl⟩
theorem d_X10_moments_14 : gd cX10_moments 14 (.getfield 12) 3 17 := ⟨by decide +kernel, rfl⟩
theorem d_X10_moments_17 : gd cX10_moments 17 (.iload_n 2) 1 18 := ⟨by decide +kernel, rfl⟩
theorem d_X10_moments_18 : gd cX10_moments 18 .aaload 1 19 := ⟨by decide +kernel, rfl⟩
theorem d_X10_moments_19 : gd cX10_moments 19 (.invokevirtual 51) 3 22 := ⟨by decide +kernel, rfl⟩
theorem d_X10_moments_22 : gd cX10_moments 22 .iadd 1 23 := ⟨by decide +kernel, rfl⟩
theorem d_X10_moments_23 : gd cX10_moments 23 (.istore_n 1) 1 24 := ⟨by decide +kernel, rfl⟩
theorem d_X10_moments_24 : gd cX10_moments 24 (.iinc 2 1) 3 27 := ⟨by decide +kernel, rfl⟩
theorem d_X10_moments_27 : gd cX10_moments 27 (.goto (-23)) 3 30 := ⟨by decide +kernel, rfl⟩
theorem d_X10_moments_30 : gd cX10_moments 30 (.iload_n 1) 1 31 := ⟨by decide +kernel, rfl⟩
theorem d_X10_moments_31 : gd cX10_moments 31 .ireturn 1 32 := ⟨by decide +kernel, rfl⟩
def Bo_X10_moments_4 (q4 : Nat → Int32 → Int32 → gs_M → Option (Int32 × gs_M)) (a0 : Nat) (x1 : Int32) (x2 : Int32) (μ : gs_M) : Option (Int32 × gs_M) :=
  if (gI μ a0 1) ≤ x2 then (some (x1, μ)) else (ck (inb x2 4) (bd (D_X1_moment (a0 + 2 + 2 * Int32.toNatClampNeg x2) μ) (fun v5 u4 => lt1 (x1 + v5) (fun v6 => q4 a0 v6 (x2 + (1 : Int32)) u4))))
def L_X10_moments_4  : Nat → Nat → Int32 → Int32 → gs_M → Option (Int32 × gs_M)
  | 0 => fun _ _ _ _ => none
  | n + 1 => fun a0 x1 x2 μ => Bo_X10_moments_4  (L_X10_moments_4  n) a0 x1 x2 μ
def D_X10_moments (a0 : Nat) (μ : gs_M) : Option (Int32 × gs_M) :=
  L_X10_moments_4 4096 a0 (0 : Int32) (0 : Int32) μ
section S_X10_moments
variable {p : Program} {l : Launch} {e : Env} {R : Room} {s : State} {m : MethodId} {args : Array Value} {below : List Frame} {meth : Method} {c : Code} {ad : Nat → Nat} {g : va_G} {tyc : Nat → ClassId}
set_option maxRecDepth 20000 in
theorem To_X10_moments_4  (hK : KC p R s m args meth c ad g tyc RX10 cX10_moments 3 (some .int) 1) {r : Int32} {μ2 : gs_M} {q4 : Nat → Int32 → Int32 → gs_M → Option (Int32 × gs_M)} (hq4 : ∀ (a0 : Nat) (x1 : Int32) (x2 : Int32) (μ : gs_M), kd a0 = 9 → q4 a0 x1 x2 μ = some (r, μ2) → WJ p l e R s m args below meth c 0 0 (MQ below (gs_Q ad g tyc (some (.int r)) μ2) args s 0 0 (gs_A ad)) ad g tyc 3 4 [.ref a0, .int x1, .int x2] [] μ) {a0 : Nat} {x1 : Int32} {x2 : Int32} {μ : gs_M} (hk0 : kd a0 = 9) (hD : Bo_X10_moments_4 q4 a0 x1 x2 μ = some (r, μ2)) : WJ p l e R s m args below meth c 0 0 (MQ below (gs_Q ad g tyc (some (.int r)) μ2) args s 0 0 (gs_A ad)) ad g tyc 3 4 [.ref a0, .int x1, .int x2] [] μ := by
  unfold Bo_X10_moments_4 at hD
  refine r_iload_n hK d_X10_moments_4 rfl rfl ?_
  refine r_aload_n hK d_X10_moments_5 rfl rfl ?_
  refine r_getI hK d_X10_moments_6 fl_RX10_22_9 rfl hk0 ?_
  refine r_icmp_ge (tgt := 30) hK d_X10_moments_9 (by decide) (fun h1 => ?_) (fun h1 => ?_)
  · have hD := if_t hD h1
    refine r_iload_n hK d_X10_moments_30 rfl rfl ?_
    cases hD
    exact r_iret hK d_X10_moments_31
  · have hD := if_f hD h1
    refine r_iload_n hK d_X10_moments_12 rfl rfl ?_
    refine r_aload_n hK d_X10_moments_13 rfl rfl ?_
    refine r_getR hK d_X10_moments_14 fl_RX10_12_9 rfl hk0 ?_
    refine r_ref (b := (a0 + 1)) ((ly_ves _ hk0).1.1) ?_
    refine r_iload_n hK d_X10_moments_17 rfl rfl ?_
    obtain ⟨h2, hD⟩ := ck_e hD
    refine r_aaldH hK d_X10_moments_18 ((ly_ves _ hk0).1.2.1) ((ly_ves _ hk0).1.2.2) (inb_in h2) ?_
    refine r_ref (b := (a0 + 2 + 2 * Int32.toNatClampNeg x2)) ((ly_vh _ hk0 _ (inb_lt h2)).1) ?_
    obtain ⟨v5, u4, e3, hD⟩ := bd_e hD
    refine r_callV (As := []) (st := [.int x1]) (stk2 := [.int v5, .int x1]) hK (C_X1_moment ((ly_vh _ hk0 _ (inb_lt h2)).2) e3) d_X10_moments_19 mf_X1_moment ml_RX10_51 im_X1_moment rfl se_1_RX1_X1_moment ((ly_vh _ hk0 _ (inb_lt h2)).2) rfl (Nat.le_of_ble_eq_true rfl) (by decide) ⟨Nat.zero_le _, Nat.zero_le _⟩ rfl rfl ?_
    refine r_iadd hK d_X10_moments_22 ?_
    refine r_lti hD (fun v6 hD => ?_)
    refine r_istore_n hK d_X10_moments_23 rfl (by decide) (ls2 := [.ref a0, .int v6, .int x2]) rfl ?_
    refine r_iinc hK d_X10_moments_24 rfl (v := x2 + (1 : Int32)) (by rw [ci_1]) (by decide) (ls2 := [.ref a0, .int v6, .int (x2 + (1 : Int32))]) rfl ?_
    refine r_goto (tgt := 4) hK d_X10_moments_27 (by decide) ?_
    exact hq4 _ _ _ _ hk0 hD
set_option maxRecDepth 20000 in
theorem TL_X10_moments_4  (hK : KC p R s m args meth c ad g tyc RX10 cX10_moments 3 (some .int) 1) {r : Int32} {μ2 : gs_M}   : ∀ (n : Nat) (a0 : Nat) (x1 : Int32) (x2 : Int32) (μ : gs_M), kd a0 = 9 → L_X10_moments_4  n a0 x1 x2 μ = some (r, μ2) → WJ p l e R s m args below meth c 0 0 (MQ below (gs_Q ad g tyc (some (.int r)) μ2) args s 0 0 (gs_A ad)) ad g tyc 3 4 [.ref a0, .int x1, .int x2] [] μ := by
  intro n
  induction n with
  | zero => intro a0 x1 x2 μ hk0 hD; cases hD
  | succ n ih => intro a0 x1 x2 μ hk0 hD; exact To_X10_moments_4 hK  ih hk0 hD
set_option maxRecDepth 20000 in
theorem C_X10_moments  {a0 : Nat} {μ : gs_M} {r : Int32} {μ2 : gs_M} (hk0 : kd a0 = 9) (hD : D_X10_moments a0 μ = some (r, μ2)) : CALL yX10_moments cX10_moments 3 (some .int) 1 [.ref a0] μ (some (.int r)) μ2 := by
  unfold D_X10_moments at hD
  refine gs_enter mf_X10_moments (Nat.le_of_ble_eq_true rfl) (ls := [.ref a0, gs_J, gs_J]) rfl (fun p l e R s m args below meth c ad g tyc hK => ?_)
  have hK : KC p R s m args meth c ad g tyc RX10 cX10_moments 3 (some .int) 1 := hK
  refine r_iconst hK d_X10_moments_0 ci_0 ?_
  refine r_istore_n hK d_X10_moments_1 rfl (by decide) (ls2 := [.ref a0, .int (0 : Int32), gs_J]) rfl ?_
  refine r_iconst hK d_X10_moments_2 ci_0 ?_
  refine r_istore_n hK d_X10_moments_3 rfl (by decide) (ls2 := [.ref a0, .int (0 : Int32), .int (0 : Int32)]) rfl ?_
  exact TL_X10_moments_4 hK  _ _ _ _ _ hk0 hD
end S_X10_moments
theorem d_X10_lean_0 : gd cX10_lean 0 (.aload_n 0) 1 1 := ⟨by decide +kernel, rfl⟩
theorem d_X10_lean_1 : gd cX10_lean 1 (.getfield 18) 3 4 := ⟨by decide +kernel, rfl⟩
theorem d_X10_lean_4 : gd cX10_lean 4 (.getfield 55) 3 7 := ⟨by decide +kernel, rfl⟩
theorem d_X10_lean_7 : gd cX10_lean 7 (.istore_n 1) 1 8 := ⟨by decide +kernel, rfl⟩
theorem d_X10_lean_8 : gd cX10_lean 8 (.iload_n 1) 1 9 := ⟨by decide +kernel, rfl⟩
theorem d_X10_lean_9 : gd cX10_lean 9 (.ifCond .le 23) 3 12 := ⟨by decide +kernel, rfl⟩
theorem d_X10_lean_12 : gd cX10_lean 12 (.aload_n 0) 1 13 := ⟨by decide +kernel, rfl⟩
theorem d_X10_lean_13 : gd cX10_lean 13 (.invokevirtual 60) 3 16 := ⟨by decide +kernel, rfl⟩
theorem d_X10_lean_16 : gd cX10_lean 16 (.bipush 10) 2 18 := ⟨by decide +kernel, rfl⟩
theorem d_X10_lean_18 : gd cX10_lean 18 (.aload_n 0) 1 19 := ⟨by decide +kernel, rfl⟩
theorem d_X10_lean_19 : gd cX10_lean 19 (.getfield 18) 3 22 := ⟨by decide +kernel, rfl⟩
theorem d_X10_lean_22 : gd cX10_lean 22 (.getfield 63) 3 25 := ⟨by decide +kernel, rfl⟩
theorem d_X10_lean_25 : gd cX10_lean 25 .imul 1 26 := ⟨by decide +kernel, rfl⟩
theorem d_X10_lean_26 : gd cX10_lean 26 .iadd 1 27 := ⟨by decide +kernel, rfl⟩
theorem d_X10_lean_27 : gd cX10_lean 27 (.iload_n 1) 1 28 := ⟨by decide +kernel, rfl⟩
theorem d_X10_lean_28 : gd cX10_lean 28 .idiv 1 29 := ⟨by decide +kernel, rfl⟩
theorem d_X10_lean_29 : gd cX10_lean 29 (.goto 4) 3 32 := ⟨by decide +kernel, rfl⟩
theorem d_X10_lean_32 : gd cX10_lean 32 (.iconst 0) 1 33 := ⟨by decide +kernel, rfl⟩
theorem d_X10_lean_33 : gd cX10_lean 33 .ireturn 1 34 := ⟨by decide +kernel, rfl⟩
def D_X10_lean (a0 : Nat) (μ : gs_M) : Option (Int32 × gs_M) :=
  lt1 (gI μ 25 0) (fun v1 => if v1 ≤ 0 then (some ((0 : Int32), μ)) else (bd (D_X10_moments a0 μ) (fun v5 u4 => ck (nzi v1) (some ((v5 + ((10 : Int32) * (gI u4 25 1))) / v1, u4)))))
section S_X10_lean
variable {p : Program} {l : Launch} {e : Env} {R : Room} {s : State} {m : MethodId} {args : Array Value} {below : List Frame} {meth : Method} {c : Code} {ad : Nat → Nat} {g : va_G} {tyc : Nat → ClassId}
set_option maxRecDepth 20000 in
theorem C_X10_lean  {a0 : Nat} {μ : gs_M} {r : Int32} {μ2 : gs_M} (hk0 : kd a0 = 9) (hD : D_X10_lean a0 μ = some (r, μ2)) : CALL yX10_lean cX10_lean 2 (some .int) 2 [.ref a0] μ (some (.int r)) μ2 := by
  unfold D_X10_lean at hD
  refine gs_enter mf_X10_lean (Nat.le_of_ble_eq_true rfl) (ls := [.ref a0, gs_J]) rfl (fun p l e R s m args below meth c ad g tyc hK => ?_)
  have hK : KC p R s m args meth c ad g tyc RX10 cX10_lean 2 (some .int) 2 := hK
  refine r_aload_n hK d_X10_lean_0 rfl rfl ?_
  refine r_getR hK d_X10_lean_1 fl_RX10_18_9 rfl hk0 ?_
  refine r_ref (b := 25) ((ly_ves _ hk0).2) ?_
  refine r_getI hK d_X10_lean_4 fl_RX10_55_6 rfl kd_25 ?_
  refine r_lti hD (fun v1 hD => ?_)
  refine r_istore_n hK d_X10_lean_7 rfl (by decide) (ls2 := [.ref a0, .int v1]) rfl ?_
  refine r_iload_n hK d_X10_lean_8 rfl rfl ?_
  refine r_if_le (tgt := 32) hK d_X10_lean_9 (by decide) (fun h2 => ?_) (fun h2 => ?_)
  · have hD := if_t hD h2
    refine r_iconst hK d_X10_lean_32 ci_0 ?_
    cases hD
    exact r_iret hK d_X10_lean_33
  · have hD := if_f hD h2
    refine r_aload_n hK d_X10_lean_12 rfl rfl ?_
    obtain ⟨v5, u4, e3, hD⟩ := bd_e hD
    refine r_callV (As := []) (st := []) (stk2 := [.int v5]) hK (C_X10_moments hk0 e3) d_X10_lean_13 mf_X10_moments ml_RX10_60 im_X10_moments rfl se_9_RX10_X10_moments hk0 rfl (Nat.le_of_ble_eq_true rfl) (by decide) ⟨Nat.zero_le _, Nat.zero_le _⟩ rfl rfl ?_
    refine r_bipush hK d_X10_lean_16 cb_10 ?_
    refine r_aload_n hK d_X10_lean_18 rfl rfl ?_
    refine r_getR hK d_X10_lean_19 fl_RX10_18_9 rfl hk0 ?_
    refine r_ref (b := 25) ((ly_ves _ hk0).2) ?_
    refine r_getI hK d_X10_lean_22 fl_RX10_63_6 rfl kd_25 ?_
    refine r_imul hK d_X10_lean_25 ?_
    refine r_iadd hK d_X10_lean_26 ?_
    refine r_iload_n hK d_X10_lean_27 rfl rfl ?_
    obtain ⟨h6, hD⟩ := ck_e hD
    refine r_idiv hK d_X10_lean_28 (nzi_e h6) ?_
    refine r_goto (tgt := 33) hK d_X10_lean_29 (by decide) ?_
    cases hD
    exact r_iret hK d_X10_lean_33
end S_X10_lean
theorem d_X10_mostShaken_0 : gd cX10_mostShaken 0 (.iconst 0) 1 1 := ⟨by decide +kernel, rfl⟩
theorem d_X10_mostShaken_1 : gd cX10_mostShaken 1 (.istore_n 1) 1 2 := ⟨by decide +kernel, rfl⟩
theorem d_X10_mostShaken_2 : gd cX10_mostShaken 2 (.iconst 0) 1 3 := ⟨by decide +kernel, rfl⟩
theorem d_X10_mostShaken_3 : gd cX10_mostShaken 3 (.istore_n 2) 1 4 := ⟨by decide +kernel, rfl⟩
theorem d_X10_mostShaken_4 : gd cX10_mostShaken 4 (.iload_n 2) 1 5 := ⟨by decide +kernel, rfl⟩
theorem d_X10_mostShaken_5 : gd cX10_mostShaken 5 (.aload_n 0) 1 6 := ⟨by decide +kernel, rfl⟩
theorem d_X10_mostShaken_6 : gd cX10_mostShaken 6 (.getfield 22) 3 9 := ⟨by decide +kernel, rfl⟩
theorem d_X10_mostShaken_9 : gd cX10_mostShaken 9 (.if_icmp .ge 23) 3 12 := ⟨by decide +kernel, rfl⟩
theorem d_X10_mostShaken_12 : gd cX10_mostShaken 12 (.iload_n 1) 1 13 := ⟨by decide +kernel, rfl⟩
theorem d_X10_mostShaken_13 : gd cX10_mostShaken 13 (.aload_n 0) 1 14 := ⟨by decide +kernel, rfl⟩
theorem d_X10_mostShaken_14 : gd cX10_mostShaken 14 (.getfield 12) 3 17 := ⟨by decide +kernel, rfl⟩
theorem d_X10_mostShaken_17 : gd cX10_mostShaken 17 (.iload_n 2) 1 18 := ⟨by decide +kernel, rfl⟩
theorem d_X10_mostShaken_18 : gd cX10_mostShaken 18 .aaload 1 19 := ⟨by decide +kernel, rfl⟩
theorem d_X10_mostShaken_19 : gd cX10_mostShaken 19 (.getfield 66) 3 22 := ⟨by decide +kernel, rfl⟩
theorem d_X10_mostShaken_22 : gd cX10_mostShaken 22 (.invokestatic 69) 3 25 := ⟨by decide +kernel, rfl⟩
theorem d_X10_mostShaken_25 : gd cX10_mostShaken 25 (.istore_n 1) 1 26 := ⟨by decide +kernel, rfl⟩
theorem d_X10_mostShaken_26 : gd cX10_mostShaken 26 (.iinc 2 1) 3 29 := ⟨by decide +kernel, rfl⟩
theorem d_X10_mostShaken_29 : gd cX10_mostShaken 29 (.goto (-25)) 3 32 := ⟨by decide +kernel, rfl⟩
theorem d_X10_mostShaken_32 : gd cX10_mostShaken 32 (.iload_n 1) 1 33 := ⟨by decide +kernel, rfl⟩
theorem d_X10_mostShaken_33 : gd cX10_mostShaken 33 .ireturn 1 34 := ⟨by decide +kernel, rfl⟩
def Bo_X10_mostShaken_4 (q4 : Nat → Int32 → Int32 → gs_M → Option (Int32 × gs_M)) (a0 : Nat) (x1 : Int32) (x2 : Int32) (μ : gs_M) : Option (Int32 × gs_M) :=
  if (gI μ a0 1) ≤ x2 then (some (x1, μ)) else (ck (inb x2 4) (lt1 (if x1 < (gI μ (a0 + 2 + 2 * Int32.toNatClampNeg x2) 5) then (gI μ (a0 + 2 + 2 * Int32.toNatClampNeg x2) 5) else x1) (fun v3 => q4 a0 v3 (x2 + (1 : Int32)) μ)))
def L_X10_mostShaken_4  : Nat → Nat → Int32 → Int32 → gs_M → Option (Int32 × gs_M)
  | 0 => fun _ _ _ _ => none
  | n + 1 => fun a0 x1 x2 μ => Bo_X10_mostShaken_4  (L_X10_mostShaken_4  n) a0 x1 x2 μ
def D_X10_mostShaken (a0 : Nat) (μ : gs_M) : Option (Int32 × gs_M) :=
  L_X10_mostShaken_4 4096 a0 (0 : Int32) (0 : Int32) μ
section S_X10_mostShaken
variable {p : Program} {l : Launch} {e : Env} {R : Room} {s : State} {m : MethodId} {args : Array Value} {below : List Frame} {meth : Method} {c : Code} {ad : Nat → Nat} {g : va_G} {tyc : Nat → ClassId}
set_option maxRecDepth 20000 in
theorem To_X10_mostShaken_4  (hK : KC p R s m args meth c ad g tyc RX10 cX10_mostShaken 3 (some .int) 1) {r : Int32} {μ2 : gs_M} {q4 : Nat → Int32 → Int32 → gs_M → Option (Int32 × gs_M)} (hq4 : ∀ (a0 : Nat) (x1 : Int32) (x2 : Int32) (μ : gs_M), kd a0 = 9 → q4 a0 x1 x2 μ = some (r, μ2) → WJ p l e R s m args below meth c 0 0 (MQ below (gs_Q ad g tyc (some (.int r)) μ2) args s 0 0 (gs_A ad)) ad g tyc 3 4 [.ref a0, .int x1, .int x2] [] μ) {a0 : Nat} {x1 : Int32} {x2 : Int32} {μ : gs_M} (hk0 : kd a0 = 9) (hD : Bo_X10_mostShaken_4 q4 a0 x1 x2 μ = some (r, μ2)) : WJ p l e R s m args below meth c 0 0 (MQ below (gs_Q ad g tyc (some (.int r)) μ2) args s 0 0 (gs_A ad)) ad g tyc 3 4 [.ref a0, .int x1, .int x2] [] μ := by
  unfold Bo_X10_mostShaken_4 at hD
  refine r_iload_n hK d_X10_mostShaken_4 rfl rfl ?_
  refine r_aload_n hK d_X10_mostShaken_5 rfl rfl ?_
  refine r_getI hK d_X10_mostShaken_6 fl_RX10_22_9 rfl hk0 ?_
  refine r_icmp_ge (tgt := 32) hK d_X10_mostShaken_9 (by decide) (fun h1 => ?_) (fun h1 => ?_)
  · have hD := if_t hD h1
    refine r_iload_n hK d_X10_mostShaken_32 rfl rfl ?_
    cases hD
    exact r_iret hK d_X10_mostShaken_33
  · have hD := if_f hD h1
    refine r_iload_n hK d_X10_mostShaken_12 rfl rfl ?_
    refine r_aload_n hK d_X10_mostShaken_13 rfl rfl ?_
    refine r_getR hK d_X10_mostShaken_14 fl_RX10_12_9 rfl hk0 ?_
    refine r_ref (b := (a0 + 1)) ((ly_ves _ hk0).1.1) ?_
    refine r_iload_n hK d_X10_mostShaken_17 rfl rfl ?_
    obtain ⟨h2, hD⟩ := ck_e hD
    refine r_aaldH hK d_X10_mostShaken_18 ((ly_ves _ hk0).1.2.1) ((ly_ves _ hk0).1.2.2) (inb_in h2) ?_
    refine r_ref (b := (a0 + 2 + 2 * Int32.toNatClampNeg x2)) ((ly_vh _ hk0 _ (inb_lt h2)).1) ?_
    refine r_getI hK d_X10_mostShaken_19 fl_RX10_66_1 rfl ((ly_vh _ hk0 _ (inb_lt h2)).2) ?_
    refine r_mmax hK d_X10_mostShaken_22 mm_RX10_69 ms_max mi_0 mc_max (Nat.le_of_ble_eq_true rfl) (by decide) ⟨Nat.zero_le _, Nat.zero_le _⟩ ?_
    refine r_lti hD (fun v3 hD => ?_)
    refine r_istore_n hK d_X10_mostShaken_25 rfl (by decide) (ls2 := [.ref a0, .int v3, .int x2]) rfl ?_
    refine r_iinc hK d_X10_mostShaken_26 rfl (v := x2 + (1 : Int32)) (by rw [ci_1]) (by decide) (ls2 := [.ref a0, .int v3, .int (x2 + (1 : Int32))]) rfl ?_
    refine r_goto (tgt := 4) hK d_X10_mostShaken_29 (by decide) ?_
    exact hq4 _ _ _ _ hk0 hD
set_option maxRecDepth 20000 in
theorem TL_X10_mostShaken_4  (hK : KC p R s m args meth c ad g tyc RX10 cX10_mostShaken 3 (some .int) 1) {r : Int32} {μ2 : gs_M}   : ∀ (n : Nat) (a0 : Nat) (x1 : Int32) (x2 : Int32) (μ : gs_M), kd a0 = 9 → L_X10_mostShaken_4  n a0 x1 x2 μ = some (r, μ2) → WJ p l e R s m args below meth c 0 0 (MQ below (gs_Q ad g tyc (some (.int r)) μ2) args s 0 0 (gs_A ad)) ad g tyc 3 4 [.ref a0, .int x1, .int x2] [] μ := by
  intro n
  induction n with
  | zero => intro a0 x1 x2 μ hk0 hD; cases hD
  | succ n ih => intro a0 x1 x2 μ hk0 hD; exact To_X10_mostShaken_4 hK  ih hk0 hD
set_option maxRecDepth 20000 in
theorem C_X10_mostShaken  {a0 : Nat} {μ : gs_M} {r : Int32} {μ2 : gs_M} (hk0 : kd a0 = 9) (hD : D_X10_mostShaken a0 μ = some (r, μ2)) : CALL yX10_mostShaken cX10_mostShaken 3 (some .int) 1 [.ref a0] μ (some (.int r)) μ2 := by
  unfold D_X10_mostShaken at hD
  refine gs_enter mf_X10_mostShaken (Nat.le_of_ble_eq_true rfl) (ls := [.ref a0, gs_J, gs_J]) rfl (fun p l e R s m args below meth c ad g tyc hK => ?_)
  have hK : KC p R s m args meth c ad g tyc RX10 cX10_mostShaken 3 (some .int) 1 := hK
  refine r_iconst hK d_X10_mostShaken_0 ci_0 ?_
  refine r_istore_n hK d_X10_mostShaken_1 rfl (by decide) (ls2 := [.ref a0, .int (0 : Int32), gs_J]) rfl ?_
  refine r_iconst hK d_X10_mostShaken_2 ci_0 ?_
  refine r_istore_n hK d_X10_mostShaken_3 rfl (by decide) (ls2 := [.ref a0, .int (0 : Int32), .int (0 : Int32)]) rfl ?_
  exact TL_X10_mostShaken_4 hK  _ _ _ _ _ hk0 hD
end S_X10_mostShaken
theorem d_X10_wentRight_0 : gd cX10_wentRight 0 (.iconst 0) 1 1 := ⟨by decide +kernel, rfl⟩
theorem d_X10_wentRight_1 : gd cX10_wentRight 1 (.istore_n 1) 1 2 := ⟨by decide +kernel, rfl⟩
theorem d_X10_wentRight_2 : gd cX10_wentRight 2 (.iconst 0) 1 3 := ⟨by decide +kernel, rfl⟩
theorem d_X10_wentRight_3 : gd cX10_wentRight 3 (.istore_n 2) 1 4 := ⟨by decide +kernel, rfl⟩
theorem d_X10_wentRight_4 : gd cX10_wentRight 4 (.iload_n 2) 1 5 := ⟨by decide +kernel, rfl⟩
theorem d_X10_wentRight_5 : gd cX10_wentRight 5 (.aload_n 0) 1 6 := ⟨by decide +kernel, rfl⟩
theorem d_X10_wentRight_6 : gd cX10_wentRight 6 (.getfield 22) 3 9 := ⟨by decide +kernel, rfl⟩
theorem d_X10_wentRight_9 : gd cX10_wentRight 9 (.if_icmp .ge 21) 3 12 := ⟨by decide +kernel, rfl⟩
theorem d_X10_wentRight_12 : gd cX10_wentRight 12 (.iload_n 1) 1 13 := ⟨by decide +kernel, rfl⟩
theorem d_X10_wentRight_13 : gd cX10_wentRight 13 (.aload_n 0) 1 14 := ⟨by decide +kernel, rfl⟩
theorem d_X10_wentRight_14 : gd cX10_wentRight 14 (.getfield 12) 3 17 := ⟨by decide +kernel, rfl⟩
theorem d_X10_wentRight_17 : gd cX10_wentRight 17 (.iload_n 2) 1 18 := ⟨by decide +kernel, rfl⟩
theorem d_X10_wentRight_18 : gd cX10_wentRight 18 .aaload 1 19 := ⟨by decide +kernel, rfl⟩
theorem d_X10_wentRight_19 : gd cX10_wentRight 19 (.getfield 75) 3 22 := ⟨by decide +kernel, rfl⟩
theorem d_X10_wentRight_22 : gd cX10_wentRight 22 .iadd 1 23 := ⟨by decide +kernel, rfl⟩
theorem d_X10_wentRight_23 : gd cX10_wentRight 23 (.istore_n 1) 1 24 := ⟨by decide +kernel, rfl⟩
theorem d_X10_wentRight_24 : gd cX10_wentRight 24 (.iinc 2 1) 3 27 := ⟨by decide +kernel, rfl⟩
theorem d_X10_wentRight_27 : gd cX10_wentRight 27 (.goto (-23)) 3 30 := ⟨by decide +kernel, rfl⟩
theorem d_X10_wentRight_30 : gd cX10_wentRight 30 (.iload_n 1) 1 31 := ⟨by decide +kernel, rfl⟩
theorem d_X10_wentRight_31 : gd cX10_wentRight 31 .ireturn 1 32 := ⟨by decide +kernel, rfl⟩
def Bo_X10_wentRight_4 (q4 : Nat → Int32 → Int32 → gs_M → Option (Int32 × gs_M)) (a0 : Nat) (x1 : Int32) (x2 : Int32) (μ : gs_M) : Option (Int32 × gs_M) :=
  if (gI μ a0 1) ≤ x2 then (some (x1, μ)) else (ck (inb x2 4) (lt1 (x1 + (gI μ (a0 + 2 + 2 * Int32.toNatClampNeg x2) 6)) (fun v3 => q4 a0 v3 (x2 + (1 : Int32)) μ)))
def L_X10_wentRight_4  : Nat → Nat → Int32 → Int32 → gs_M → Option (Int32 × gs_M)
  | 0 => fun _ _ _ _ => none
  | n + 1 => fun a0 x1 x2 μ => Bo_X10_wentRight_4  (L_X10_wentRight_4  n) a0 x1 x2 μ
def D_X10_wentRight (a0 : Nat) (μ : gs_M) : Option (Int32 × gs_M) :=
  L_X10_wentRight_4 4096 a0 (0 : Int32) (0 : Int32) μ
section S_X10_wentRight
variable {p : Program} {l : Launch} {e : Env} {R : Room} {s : State} {m : MethodId} {args : Array Value} {below : List Frame} {meth : Method} {c : Code} {ad : Nat → Nat} {g : va_G} {tyc : Nat → ClassId}
set_option maxRecDepth 20000 in
theorem To_X10_wentRight_4  (hK : KC p R s m args meth c ad g tyc RX10 cX10_wentRight 3 (some .int) 0) {r : Int32} {μ2 : gs_M} {q4 : Nat → Int32 → Int32 → gs_M → Option (Int32 × gs_M)} (hq4 : ∀ (a0 : Nat) (x1 : Int32) (x2 : Int32) (μ : gs_M), kd a0 = 9 → q4 a0 x1 x2 μ = some (r, μ2) → WJ p l e R s m args below meth c 0 0 (MQ below (gs_Q ad g tyc (some (.int r)) μ2) args s 0 0 (gs_A ad)) ad g tyc 3 4 [.ref a0, .int x1, .int x2] [] μ) {a0 : Nat} {x1 : Int32} {x2 : Int32} {μ : gs_M} (hk0 : kd a0 = 9) (hD : Bo_X10_wentRight_4 q4 a0 x1 x2 μ = some (r, μ2)) : WJ p l e R s m args below meth c 0 0 (MQ below (gs_Q ad g tyc (some (.int r)) μ2) args s 0 0 (gs_A ad)) ad g tyc 3 4 [.ref a0, .int x1, .int x2] [] μ := by
  unfold Bo_X10_wentRight_4 at hD
  refine r_iload_n hK d_X10_wentRight_4 rfl rfl ?_
  refine r_aload_n hK d_X10_wentRight_5 rfl rfl ?_
  refine r_getI hK d_X10_wentRight_6 fl_RX10_22_9 rfl hk0 ?_
  refine r_icmp_ge (tgt := 30) hK d_X10_wentRight_9 (by decide) (fun h1 => ?_) (fun h1 => ?_)
  · have hD := if_t hD h1
    refine r_iload_n hK d_X10_wentRight_30 rfl rfl ?_
    cases hD
    exact r_iret hK d_X10_wentRight_31
  · have hD := if_f hD h1
    refine r_iload_n hK d_X10_wentRight_12 rfl rfl ?_
    refine r_aload_n hK d_X10_wentRight_13 rfl rfl ?_
    refine r_getR hK d_X10_wentRight_14 fl_RX10_12_9 rfl hk0 ?_
    refine r_ref (b := (a0 + 1)) ((ly_ves _ hk0).1.1) ?_
    refine r_iload_n hK d_X10_wentRight_17 rfl rfl ?_
    obtain ⟨h2, hD⟩ := ck_e hD
    refine r_aaldH hK d_X10_wentRight_18 ((ly_ves _ hk0).1.2.1) ((ly_ves _ hk0).1.2.2) (inb_in h2) ?_
    refine r_ref (b := (a0 + 2 + 2 * Int32.toNatClampNeg x2)) ((ly_vh _ hk0 _ (inb_lt h2)).1) ?_
    refine r_getI hK d_X10_wentRight_19 fl_RX10_75_1 rfl ((ly_vh _ hk0 _ (inb_lt h2)).2) ?_
    refine r_iadd hK d_X10_wentRight_22 ?_
    refine r_lti hD (fun v3 hD => ?_)
    refine r_istore_n hK d_X10_wentRight_23 rfl (by decide) (ls2 := [.ref a0, .int v3, .int x2]) rfl ?_
    refine r_iinc hK d_X10_wentRight_24 rfl (v := x2 + (1 : Int32)) (by rw [ci_1]) (by decide) (ls2 := [.ref a0, .int v3, .int (x2 + (1 : Int32))]) rfl ?_
    refine r_goto (tgt := 4) hK d_X10_wentRight_27 (by decide) ?_
    exact hq4 _ _ _ _ hk0 hD
set_option maxRecDepth 20000 in
theorem TL_X10_wentRight_4  (hK : KC p R s m args meth c ad g tyc RX10 cX10_wentRight 3 (some .int) 0) {r : Int32} {μ2 : gs_M}   : ∀ (n : Nat) (a0 : Nat) (x1 : Int32) (x2 : Int32) (μ : gs_M), kd a0 = 9 → L_X10_wentRight_4  n a0 x1 x2 μ = some (r, μ2) → WJ p l e R s m args below meth c 0 0 (MQ below (gs_Q ad g tyc (some (.int r)) μ2) args s 0 0 (gs_A ad)) ad g tyc 3 4 [.ref a0, .int x1, .int x2] [] μ := by
  intro n
  induction n with
  | zero => intro a0 x1 x2 μ hk0 hD; cases hD
  | succ n ih => intro a0 x1 x2 μ hk0 hD; exact To_X10_wentRight_4 hK  ih hk0 hD
set_option maxRecDepth 20000 in
theorem C_X10_wentRight  {a0 : Nat} {μ : gs_M} {r : Int32} {μ2 : gs_M} (hk0 : kd a0 = 9) (hD : D_X10_wentRight a0 μ = some (r, μ2)) : CALL yX10_wentRight cX10_wentRight 3 (some .int) 0 [.ref a0] μ (some (.int r)) μ2 := by
  unfold D_X10_wentRight at hD
  refine gs_enter mf_X10_wentRight (Nat.le_of_ble_eq_true rfl) (ls := [.ref a0, gs_J, gs_J]) rfl (fun p l e R s m args below meth c ad g tyc hK => ?_)
  have hK : KC p R s m args meth c ad g tyc RX10 cX10_wentRight 3 (some .int) 0 := hK
  refine r_iconst hK d_X10_wentRight_0 ci_0 ?_
  refine r_istore_n hK d_X10_wentRight_1 rfl (by decide) (ls2 := [.ref a0, .int (0 : Int32), gs_J]) rfl ?_
  refine r_iconst hK d_X10_wentRight_2 ci_0 ?_
  refine r_istore_n hK d_X10_wentRight_3 rfl (by decide) (ls2 := [.ref a0, .int (0 : Int32), .int (0 : Int32)]) rfl ?_
  exact TL_X10_wentRight_4 hK  _ _ _ _ _ hk0 hD
end S_X10_wentRight
theorem d_X10_wentLeft_0 : gd cX10_wentLeft 0 (.iconst 0) 1 1 := ⟨by decide +kernel, rfl⟩
theorem d_X10_wentLeft_1 : gd cX10_wentLeft 1 (.istore_n 1) 1 2 := ⟨by decide +kernel, rfl⟩
theorem d_X10_wentLeft_2 : gd cX10_wentLeft 2 (.iconst 0) 1 3 := ⟨by decide +kernel, rfl⟩
theorem d_X10_wentLeft_3 : gd cX10_wentLeft 3 (.istore_n 2) 1 4 := ⟨by decide +kernel, rfl⟩
theorem d_X10_wentLeft_4 : gd cX10_wentLeft 4 (.iload_n 2) 1 5 := ⟨by decide +kernel, rfl⟩
theorem d_X10_wentLeft_5 : gd cX10_wentLeft 5 (.aload_n 0) 1 6 := ⟨by decide +kernel, rfl⟩
theorem d_X10_wentLeft_6 : gd cX10_wentLeft 6 (.getfield 22) 3 9 := ⟨by decide +kernel, rfl⟩
theorem d_X10_wentLeft_9 : gd cX10_wentLeft 9 (.if_icmp .ge 21) 3 12 := ⟨by decide +kernel, rfl⟩
theorem d_X10_wentLeft_12 : gd cX10_wentLeft 12 (.iload_n 1) 1 13 := ⟨by decide +kernel, rfl⟩
theorem d_X10_wentLeft_13 : gd cX10_wentLeft 13 (.aload_n 0) 1 14 := ⟨by decide +kernel, rfl⟩
theorem d_X10_wentLeft_14 : gd cX10_wentLeft 14 (.getfield 12) 3 17 := ⟨by decide +kernel, rfl⟩
theorem d_X10_wentLeft_17 : gd cX10_wentLeft 17 (.iload_n 2) 1 18 := ⟨by decide +kernel, rfl⟩
theorem d_X10_wentLeft_18 : gd cX10_wentLeft 18 .aaload 1 19 := ⟨by decide +kernel, rfl⟩
theorem d_X10_wentLeft_19 : gd cX10_wentLeft 19 (.getfield 78) 3 22 := ⟨by decide +kernel, rfl⟩
theorem d_X10_wentLeft_22 : gd cX10_wentLeft 22 .iadd 1 23 := ⟨by decide +kernel, rfl⟩
theorem d_X10_wentLeft_23 : gd cX10_wentLeft 23 (.istore_n 1) 1 24 := ⟨by decide +kernel, rfl⟩
theorem d_X10_wentLeft_24 : gd cX10_wentLeft 24 (.iinc 2 1) 3 27 := ⟨by decide +kernel, rfl⟩
theorem d_X10_wentLeft_27 : gd cX10_wentLeft 27 (.goto (-23)) 3 30 := ⟨by decide +kernel, rfl⟩
theorem d_X10_wentLeft_30 : gd cX10_wentLeft 30 (.iload_n 1) 1 31 := ⟨by decide +kernel, rfl⟩
theorem d_X10_wentLeft_31 : gd cX10_wentLeft 31 .ireturn 1 32 := ⟨by decide +kernel, rfl⟩
def Bo_X10_wentLeft_4 (q4 : Nat → Int32 → Int32 → gs_M → Option (Int32 × gs_M)) (a0 : Nat) (x1 : Int32) (x2 : Int32) (μ : gs_M) : Option (Int32 × gs_M) :=
  if (gI μ a0 1) ≤ x2 then (some (x1, μ)) else (ck (inb x2 4) (lt1 (x1 + (gI μ (a0 + 2 + 2 * Int32.toNatClampNeg x2) 7)) (fun v3 => q4 a0 v3 (x2 + (1 : Int32)) μ)))
def L_X10_wentLeft_4  : Nat → Nat → Int32 → Int32 → gs_M → Option (Int32 × gs_M)
  | 0 => fun _ _ _ _ => none
  | n + 1 => fun a0 x1 x2 μ => Bo_X10_wentLeft_4  (L_X10_wentLeft_4  n) a0 x1 x2 μ
def D_X10_wentLeft (a0 : Nat) (μ : gs_M) : Option (Int32 × gs_M) :=
  L_X10_wentLeft_4 4096 a0 (0 : Int32) (0 : Int32) μ
section S_X10_wentLeft
variable {p : Program} {l : Launch} {e : Env} {R : Room} {s : State} {m : MethodId} {args : Array Value} {below : List Frame} {meth : Method} {c : Code} {ad : Nat → Nat} {g : va_G} {tyc : Nat → ClassId}
set_option maxRecDepth 20000 in
theorem To_X10_wentLeft_4  (hK : KC p R s m args meth c ad g tyc RX10 cX10_wentLeft 3 (some .int) 0) {r : Int32} {μ2 : gs_M} {q4 : Nat → Int32 → Int32 → gs_M → Option (Int32 × gs_M)} (hq4 : ∀ (a0 : Nat) (x1 : Int32) (x2 : Int32) (μ : gs_M), kd a0 = 9 → q4 a0 x1 x2 μ = some (r, μ2) → WJ p l e R s m args below meth c 0 0 (MQ below (gs_Q ad g tyc (some (.int r)) μ2) args s 0 0 (gs_A ad)) ad g tyc 3 4 [.ref a0, .int x1, .int x2] [] μ) {a0 : Nat} {x1 : Int32} {x2 : Int32} {μ : gs_M} (hk0 : kd a0 = 9) (hD : Bo_X10_wentLeft_4 q4 a0 x1 x2 μ = some (r, μ2)) : WJ p l e R s m args below meth c 0 0 (MQ below (gs_Q ad g tyc (some (.int r)) μ2) args s 0 0 (gs_A ad)) ad g tyc 3 4 [.ref a0, .int x1, .int x2] [] μ := by
  unfold Bo_X10_wentLeft_4 at hD
  refine r_iload_n hK d_X10_wentLeft_4 rfl rfl ?_
  refine r_aload_n hK d_X10_wentLeft_5 rfl rfl ?_
  refine r_getI hK d_X10_wentLeft_6 fl_RX10_22_9 rfl hk0 ?_
  refine r_icmp_ge (tgt := 30) hK d_X10_wentLeft_9 (by decide) (fun h1 => ?_) (fun h1 => ?_)
  · have hD := if_t hD h1
    refine r_iload_n hK d_X10_wentLeft_30 rfl rfl ?_
    cases hD
    exact r_iret hK d_X10_wentLeft_31
  · have hD := if_f hD h1
    refine r_iload_n hK d_X10_wentLeft_12 rfl rfl ?_
    refine r_aload_n hK d_X10_wentLeft_13 rfl rfl ?_
    refine r_getR hK d_X10_wentLeft_14 fl_RX10_12_9 rfl hk0 ?_
    refine r_ref (b := (a0 + 1)) ((ly_ves _ hk0).1.1) ?_
    refine r_iload_n hK d_X10_wentLeft_17 rfl rfl ?_
    obtain ⟨h2, hD⟩ := ck_e hD
    refine r_aaldH hK d_X10_wentLeft_18 ((ly_ves _ hk0).1.2.1) ((ly_ves _ hk0).1.2.2) (inb_in h2) ?_
    refine r_ref (b := (a0 + 2 + 2 * Int32.toNatClampNeg x2)) ((ly_vh _ hk0 _ (inb_lt h2)).1) ?_
    refine r_getI hK d_X10_wentLeft_19 fl_RX10_78_1 rfl ((ly_vh _ hk0 _ (inb_lt h2)).2) ?_
    refine r_iadd hK d_X10_wentLeft_22 ?_
    refine r_lti hD (fun v3 hD => ?_)
    refine r_istore_n hK d_X10_wentLeft_23 rfl (by decide) (ls2 := [.ref a0, .int v3, .int x2]) rfl ?_
    refine r_iinc hK d_X10_wentLeft_24 rfl (v := x2 + (1 : Int32)) (by rw [ci_1]) (by decide) (ls2 := [.ref a0, .int v3, .int (x2 + (1 : Int32))]) rfl ?_
    refine r_goto (tgt := 4) hK d_X10_wentLeft_27 (by decide) ?_
    exact hq4 _ _ _ _ hk0 hD
set_option maxRecDepth 20000 in
theorem TL_X10_wentLeft_4  (hK : KC p R s m args meth c ad g tyc RX10 cX10_wentLeft 3 (some .int) 0) {r : Int32} {μ2 : gs_M}   : ∀ (n : Nat) (a0 : Nat) (x1 : Int32) (x2 : Int32) (μ : gs_M), kd a0 = 9 → L_X10_wentLeft_4  n a0 x1 x2 μ = some (r, μ2) → WJ p l e R s m args below meth c 0 0 (MQ below (gs_Q ad g tyc (some (.int r)) μ2) args s 0 0 (gs_A ad)) ad g tyc 3 4 [.ref a0, .int x1, .int x2] [] μ := by
  intro n
  induction n with
  | zero => intro a0 x1 x2 μ hk0 hD; cases hD
  | succ n ih => intro a0 x1 x2 μ hk0 hD; exact To_X10_wentLeft_4 hK  ih hk0 hD
set_option maxRecDepth 20000 in
theorem C_X10_wentLeft  {a0 : Nat} {μ : gs_M} {r : Int32} {μ2 : gs_M} (hk0 : kd a0 = 9) (hD : D_X10_wentLeft a0 μ = some (r, μ2)) : CALL yX10_wentLeft cX10_wentLeft 3 (some .int) 0 [.ref a0] μ (some (.int r)) μ2 := by
  unfold D_X10_wentLeft at hD
  refine gs_enter mf_X10_wentLeft (Nat.le_of_ble_eq_true rfl) (ls := [.ref a0, gs_J, gs_J]) rfl (fun p l e R s m args below meth c ad g tyc hK => ?_)
  have hK : KC p R s m args meth c ad g tyc RX10 cX10_wentLeft 3 (some .int) 0 := hK
  refine r_iconst hK d_X10_wentLeft_0 ci_0 ?_
  refine r_istore_n hK d_X10_wentLeft_1 rfl (by decide) (ls2 := [.ref a0, .int (0 : Int32), gs_J]) rfl ?_
  refine r_iconst hK d_X10_wentLeft_2 ci_0 ?_
  refine r_istore_n hK d_X10_wentLeft_3 rfl (by decide) (ls2 := [.ref a0, .int (0 : Int32), .int (0 : Int32)]) rfl ?_
  exact TL_X10_wentLeft_4 hK  _ _ _ _ _ hk0 hD
end S_X10_wentLeft
theorem d_X10_isTooFar_0 : gd cX10_isTooFar 0 (.aload_n 0) 1 1 := ⟨by decide +kernel, rfl⟩
theorem d_X10_isTooFar_1 : gd cX10_isTooFar 1 (.invokevirtual 84) 3 4 := ⟨by decide +kernel, rfl⟩
theorem d_X10_isTooFar_4 : gd cX10_isTooFar 4 (.invokestatic 108) 3 7 := ⟨by decide +kernel, rfl⟩
theorem d_X10_isTooFar_7 : gd cX10_isTooFar 7 (.aload_n 0) 1 8 := ⟨by decide +kernel, rfl⟩
theorem d_X10_isTooFar_8 : gd cX10_isTooFar 8 (.getfield 18) 3 11 := ⟨by decide +kernel, rfl⟩
theorem d_X10_isTooFar_11 : gd cX10_isTooFar 11 (.getfield 111) 3 14 := ⟨by decide +kernel, rfl⟩
theorem d_X10_isTooFar_14 : gd cX10_isTooFar 14 (.if_icmp .lt 7) 3 17 := ⟨by decide +kernel, rfl⟩
theorem d_X10_isTooFar_17 : gd cX10_isTooFar 17 (.iconst 1) 1 18 := ⟨by decide +kernel, rfl⟩
theorem d_X10_isTooFar_18 : gd cX10_isTooFar 18 (.goto 4) 3 21 := ⟨by decide +kernel, rfl⟩
theorem d_X10_isTooFar_21 : gd cX10_isTooFar 21 (.iconst 0) 1 22 := ⟨by decide +kernel, rfl⟩
theorem d_X10_isTooFar_22 : gd cX10_isTooFar 22 .ireturn 1 23 := ⟨by decide +kernel, rfl⟩
def D_X10_isTooFar (a0 : Nat) (μ : gs_M) : Option (Int32 × gs_M) :=
  bd (D_X10_lean a0 μ) (fun v3 u2 => lt1 (if 0 ≤ v3 then v3 else 0 - v3) (fun v4 => if v4 < (gI u2 25 2) then (some ((0 : Int32), u2)) else (some ((1 : Int32), u2))))
section S_X10_isTooFar
variable {p : Program} {l : Launch} {e : Env} {R : Room} {s : State} {m : MethodId} {args : Array Value} {below : List Frame} {meth : Method} {c : Code} {ad : Nat → Nat} {g : va_G} {tyc : Nat → ClassId}
set_option maxRecDepth 20000 in
theorem C_X10_isTooFar  {a0 : Nat} {μ : gs_M} {r : Int32} {μ2 : gs_M} (hk0 : kd a0 = 9) (hD : D_X10_isTooFar a0 μ = some (r, μ2)) : CALL yX10_isTooFar cX10_isTooFar 1 (some .boolean) 3 [.ref a0] μ (some (.int r)) μ2 := by
  unfold D_X10_isTooFar at hD
  refine gs_enter mf_X10_isTooFar (Nat.le_of_ble_eq_true rfl) (ls := [.ref a0]) rfl (fun p l e R s m args below meth c ad g tyc hK => ?_)
  have hK : KC p R s m args meth c ad g tyc RX10 cX10_isTooFar 1 (some .boolean) 3 := hK
  refine r_aload_n hK d_X10_isTooFar_0 rfl rfl ?_
  obtain ⟨v3, u2, e1, hD⟩ := bd_e hD
  refine r_callV (As := []) (st := []) (stk2 := [.int v3]) hK (C_X10_lean hk0 e1) d_X10_isTooFar_1 mf_X10_lean ml_RX10_84 im_X10_lean rfl se_9_RX10_X10_lean hk0 rfl (Nat.le_of_ble_eq_true rfl) (by decide) ⟨Nat.zero_le _, Nat.zero_le _⟩ rfl rfl ?_
  refine r_mabs hK d_X10_isTooFar_4 mm_RX10_108 ms_abs mi_0 mc_abs (Nat.le_of_ble_eq_true rfl) (by decide) ⟨Nat.zero_le _, Nat.zero_le _⟩ ?_
  refine r_lti hD (fun v4 hD => ?_)
  refine r_aload_n hK d_X10_isTooFar_7 rfl rfl ?_
  refine r_getR hK d_X10_isTooFar_8 fl_RX10_18_9 rfl hk0 ?_
  refine r_ref (b := 25) ((ly_ves _ hk0).2) ?_
  refine r_getI hK d_X10_isTooFar_11 fl_RX10_111_6 rfl kd_25 ?_
  refine r_icmp_lt (tgt := 21) hK d_X10_isTooFar_14 (by decide) (fun h5 => ?_) (fun h5 => ?_)
  · have hD := if_t hD h5
    refine r_iconst hK d_X10_isTooFar_21 ci_0 ?_
    cases hD
    exact r_zret hK (Or.inl rfl) d_X10_isTooFar_22
  · have hD := if_f hD h5
    refine r_iconst hK d_X10_isTooFar_17 ci_1 ?_
    refine r_goto (tgt := 22) hK d_X10_isTooFar_18 (by decide) ?_
    cases hD
    exact r_zret hK (Or.inr rfl) d_X10_isTooFar_22
end S_X10_isTooFar
theorem d_X10_restAll_0 : gd cX10_restAll 0 (.iload_n 1) 1 1 := ⟨by decide +kernel, rfl⟩
theorem d_X10_restAll_1 : gd cX10_restAll 1 (.invokestatic 101) 3 4 := ⟨by decide +kernel, rfl⟩
theorem d_X10_restAll_4 : gd cX10_restAll 4 (.istore_n 2) 1 5 := ⟨by decide +kernel, rfl⟩
theorem d_X10_restAll_5 : gd cX10_restAll 5 (.iconst 0) 1 6 := ⟨by decide +kernel, rfl⟩
theorem d_X10_restAll_6 : gd cX10_restAll 6 (.istore_n 3) 1 7 := ⟨by decide +kernel, rfl⟩
theorem d_X10_restAll_7 : gd cX10_restAll 7 (.iload_n 3) 1 8 := ⟨by decide +kernel, rfl⟩
theorem d_X10_restAll_8 : gd cX10_restAll 8 (.aload_n 0) 1 9 := ⟨by decide +kernel, rfl⟩
theorem d_X10_restAll_9 : gd cX10_restAll 9 (.getfield 22) 3 12 := ⟨by decide +kernel, rfl⟩
theorem d_X10_restAll_12 : gd cX10_restAll 12 (.if_icmp .ge 19) 3 15 := ⟨by decide +kernel, rfl⟩
theorem d_X10_restAll_15 : gd cX10_restAll 15 (.aload_n 0) 1 16 := ⟨by decide +kernel, rfl⟩
theorem d_X10_restAll_16 : gd cX10_restAll 16 (.getfield 12) 3 19 := ⟨by decide +kernel, rfl⟩
theorem d_X10_restAll_19 : gd cX10_restAll 19 (.iload_n 3) 1 20 := ⟨by decide +kernel, rfl⟩
theorem d_X10_restAll_20 : gd cX10_restAll 20 .aaload 1 21 := ⟨by decide +kernel, rfl⟩
theorem d_X10_restAll_21 : gd cX10_restAll 21 (.iload_n 2) 1 22 := ⟨by decide +kernel, rfl⟩
theorem d_X10_restAll_22 : gd cX10_restAll 22 (.invokevirtual 105) 3 25 := ⟨by decide +kernel, rfl⟩
theorem d_X10_restAll_25 : gd cX10_restAll 25 (.iinc 3 1) 3 28 := ⟨by decide +kernel, rfl⟩
theorem d_X10_restAll_28 : gd cX10_restAll 28 (.goto (-21)) 3 31 := ⟨by decide +kernel, rfl⟩
theorem d_X10_restAll_31 : gd cX10_restAll 31 .return_ 1 32 := ⟨by decide +kernel, rfl⟩
def Bo_X10_restAll_7 (q7 : Nat → Int32 → Int32 → gs_M → Option (gs_M)) (a0 : Nat) (x2 : Int32) (x3 : Int32) (μ : gs_M) : Option (gs_M) :=
  if (gI μ a0 1) ≤ x3 then (some μ) else (ck (inb x3 4) (bd0 (D_X1_restWith (a0 + 2 + 2 * Int32.toNatClampNeg x3) x2 μ) (fun u4 => q7 a0 x2 (x3 + (1 : Int32)) u4)))
def L_X10_restAll_7  : Nat → Nat → Int32 → Int32 → gs_M → Option (gs_M)
  | 0 => fun _ _ _ _ => none
  | n + 1 => fun a0 x2 x3 μ => Bo_X10_restAll_7  (L_X10_restAll_7  n) a0 x2 x3 μ
def D_X10_restAll (a0 : Nat) (x1 : Int32) (μ : gs_M) : Option (gs_M) :=
  bd (D_X11_heldSlope x1 μ) (fun v3 u2 => L_X10_restAll_7 4096 a0 v3 (0 : Int32) u2)
section S_X10_restAll
variable {p : Program} {l : Launch} {e : Env} {R : Room} {s : State} {m : MethodId} {args : Array Value} {below : List Frame} {meth : Method} {c : Code} {ad : Nat → Nat} {g : va_G} {tyc : Nat → ClassId}
set_option maxRecDepth 20000 in
theorem To_X10_restAll_7  (hK : KC p R s m args meth c ad g tyc RX10 cX10_restAll 4 none 3) {μ2 : gs_M} {q7 : Nat → Int32 → Int32 → gs_M → Option (gs_M)} (hq7 : ∀ (a0 : Nat) (x2 : Int32) (x3 : Int32) (μ : gs_M), kd a0 = 9 → q7 a0 x2 x3 μ = some μ2 → WJ p l e R s m args below meth c 0 0 (MQ below (gs_Q ad g tyc none μ2) args s 0 0 (gs_A ad)) ad g tyc 4 7 [.ref a0, gs_J, .int x2, .int x3] [] μ) {a0 : Nat} {x2 : Int32} {x3 : Int32} {μ : gs_M} (hk0 : kd a0 = 9) (hD : Bo_X10_restAll_7 q7 a0 x2 x3 μ = some μ2) : WJ p l e R s m args below meth c 0 0 (MQ below (gs_Q ad g tyc none μ2) args s 0 0 (gs_A ad)) ad g tyc 4 7 [.ref a0, gs_J, .int x2, .int x3] [] μ := by
  unfold Bo_X10_restAll_7 at hD
  refine r_iload_n hK d_X10_restAll_7 rfl rfl ?_
  refine r_aload_n hK d_X10_restAll_8 rfl rfl ?_
  refine r_getI hK d_X10_restAll_9 fl_RX10_22_9 rfl hk0 ?_
  refine r_icmp_ge (tgt := 31) hK d_X10_restAll_12 (by decide) (fun h1 => ?_) (fun h1 => ?_)
  · have hD := if_t hD h1
    cases hD
    exact r_vret hK d_X10_restAll_31
  · have hD := if_f hD h1
    refine r_aload_n hK d_X10_restAll_15 rfl rfl ?_
    refine r_getR hK d_X10_restAll_16 fl_RX10_12_9 rfl hk0 ?_
    refine r_ref (b := (a0 + 1)) ((ly_ves _ hk0).1.1) ?_
    refine r_iload_n hK d_X10_restAll_19 rfl rfl ?_
    obtain ⟨h2, hD⟩ := ck_e hD
    refine r_aaldH hK d_X10_restAll_20 ((ly_ves _ hk0).1.2.1) ((ly_ves _ hk0).1.2.2) (inb_in h2) ?_
    refine r_ref (b := (a0 + 2 + 2 * Int32.toNatClampNeg x3)) ((ly_vh _ hk0 _ (inb_lt h2)).1) ?_
    refine r_iload_n hK d_X10_restAll_21 rfl rfl ?_
    obtain ⟨u4, e3, hD⟩ := bd0_e hD
    refine r_callV (As := [.int x2]) (st := []) (stk2 := []) hK (C_X1_restWith ((ly_vh _ hk0 _ (inb_lt h2)).2) e3) d_X10_restAll_22 mf_X1_restWith ml_RX10_105 im_X1_restWith rfl se_1_RX1_X1_restWith ((ly_vh _ hk0 _ (inb_lt h2)).2) rfl (Nat.le_of_ble_eq_true rfl) (by decide) ⟨Nat.zero_le _, Nat.zero_le _⟩ rfl rfl ?_
    refine r_iinc hK d_X10_restAll_25 rfl (v := x3 + (1 : Int32)) (by rw [ci_1]) (by decide) (ls2 := [.ref a0, gs_J, .int x2, .int (x3 + (1 : Int32))]) rfl ?_
    refine r_goto (tgt := 7) hK d_X10_restAll_28 (by decide) ?_
    exact hq7 _ _ _ _ hk0 hD
set_option maxRecDepth 20000 in
theorem TL_X10_restAll_7  (hK : KC p R s m args meth c ad g tyc RX10 cX10_restAll 4 none 3) {μ2 : gs_M}   : ∀ (n : Nat) (a0 : Nat) (x2 : Int32) (x3 : Int32) (μ : gs_M), kd a0 = 9 → L_X10_restAll_7  n a0 x2 x3 μ = some μ2 → WJ p l e R s m args below meth c 0 0 (MQ below (gs_Q ad g tyc none μ2) args s 0 0 (gs_A ad)) ad g tyc 4 7 [.ref a0, gs_J, .int x2, .int x3] [] μ := by
  intro n
  induction n with
  | zero => intro a0 x2 x3 μ hk0 hD; cases hD
  | succ n ih => intro a0 x2 x3 μ hk0 hD; exact To_X10_restAll_7 hK  ih hk0 hD
set_option maxRecDepth 20000 in
theorem C_X10_restAll  {a0 : Nat} {x1 : Int32} {μ : gs_M} {μ2 : gs_M} (hk0 : kd a0 = 9) (hD : D_X10_restAll a0 x1 μ = some μ2) : CALL yX10_restAll cX10_restAll 4 none 3 [.ref a0, .int x1] μ none μ2 := by
  unfold D_X10_restAll at hD
  refine gs_enter mf_X10_restAll (Nat.le_of_ble_eq_true rfl) (ls := [.ref a0, .int x1, gs_J, gs_J]) rfl (fun p l e R s m args below meth c ad g tyc hK => ?_)
  have hK : KC p R s m args meth c ad g tyc RX10 cX10_restAll 4 none 3 := hK
  refine r_iload_n hK d_X10_restAll_0 rfl rfl ?_
  obtain ⟨v3, u2, e1, hD⟩ := bd_e hD
  refine r_callSN (As := [.int x1]) (st := []) (stk2 := [.int v3]) hK (C_X11_heldSlope  e1) d_X10_restAll_1 mf_X11_heldSlope mn_RX10_101 ss_X11_heldSlope rfl (Nat.le_of_ble_eq_true rfl) (by decide) ⟨Nat.zero_le _, Nat.zero_le _⟩ rfl rfl ?_
  refine r_istore_n hK d_X10_restAll_4 rfl (by decide) (ls2 := [.ref a0, .int x1, .int v3, gs_J]) rfl ?_
  refine r_iconst hK d_X10_restAll_5 ci_0 ?_
  refine r_istore_n hK d_X10_restAll_6 rfl (by decide) (ls2 := [.ref a0, .int x1, .int v3, .int (0 : Int32)]) rfl ?_
  refine r_junk [true, false, true, true] (ls2 := [.ref a0, gs_J, .int v3, .int (0 : Int32)]) rfl ?_
  exact TL_X10_restAll_7 hK  _ _ _ _ _ hk0 hD
end S_X10_restAll
theorem d_X10_rollBy_0 : gd cX10_rollBy 0 (.iconst 0) 1 1 := ⟨by decide +kernel, rfl⟩
theorem d_X10_rollBy_1 : gd cX10_rollBy 1 (.istore_n 2) 1 2 := ⟨by decide +kernel, rfl⟩
theorem d_X10_rollBy_2 : gd cX10_rollBy 2 (.iload_n 2) 1 3 := ⟨by decide +kernel, rfl⟩
theorem d_X10_rollBy_3 : gd cX10_rollBy 3 (.aload_n 0) 1 4 := ⟨by decide +kernel, rfl⟩
theorem d_X10_rollBy_4 : gd cX10_rollBy 4 (.getfield 22) 3 7 := ⟨by decide +kernel, rfl⟩
theorem d_X10_rollBy_7 : gd cX10_rollBy 7 (.if_icmp .ge 33) 3 10 := ⟨by decide +kernel, rfl⟩
theorem d_X10_rollBy_10 : gd cX10_rollBy 10 (.aload_n 0) 1 11 := ⟨by decide +kernel, rfl⟩
theorem d_X10_rollBy_11 : gd cX10_rollBy 11 (.getfield 12) 3 14 := ⟨by decide +kernel, rfl⟩
theorem d_X10_rollBy_14 : gd cX10_rollBy 14 (.iload_n 2) 1 15 := ⟨by decide +kernel, rfl⟩
theorem d_X10_rollBy_15 : gd cX10_rollBy 15 .aaload 1 16 := ⟨by decide +kernel, rfl⟩
theorem d_X10_rollBy_16 : gd cX10_rollBy 16 (.invokevirtual 81) 3 19 := ⟨by decide +kernel, rfl⟩
theorem d_X10_rollBy_19 : gd cX10_rollBy 19 (.aload_n 0) 1 20 := ⟨by decide +kernel, rfl⟩
theorem d_X10_rollBy_20 : gd cX10_rollBy 20 (.getfield 12) 3 23 := ⟨by decide +kernel, rfl⟩
theorem d_X10_rollBy_23 : gd cX10_rollBy 23 (.iload_n 2) 1 24 := ⟨by decide +kernel, rfl⟩
theorem d_X10_rollBy_24 : gd cX10_rollBy 24 .aaload 1 25 := ⟨by decide +kernel, rfl⟩
theorem d_X10_rollBy_25 : gd cX10_rollBy 25 .dup 1 26 := ⟨by decide +kernel, rfl⟩
theorem d_X10_rollBy_26 : gd cX10_rollBy 26 (.getfield 66) 3 29 := ⟨by decide +kernel, rfl⟩
theorem d_X10_rollBy_29 : gd cX10_rollBy 29 (.iload_n 1) 1 30 := ⟨by decide +kernel, rfl⟩
theorem d_X10_rollBy_30 : gd cX10_rollBy 30 .iadd 1 31 := ⟨by decide +kernel, rfl⟩
theorem d_X10_rollBy_31 : gd cX10_rollBy 31 (.putfield 66) 3 34 := ⟨by decide +kernel, rfl⟩
theorem d_X10_rollBy_34 : gd cX10_rollBy 34 (.iinc 2 1) 3 37 := ⟨by decide +kernel, rfl⟩
theorem d_X10_rollBy_37 : gd cX10_rollBy 37 (.goto (-35)) 3 40 := ⟨by decide +kernel, rfl⟩
theorem d_X10_rollBy_40 : gd cX10_rollBy 40 (.aload_n 0) 1 41 := ⟨by decide +kernel, rfl⟩
theorem d_X10_rollBy_41 : gd cX10_rollBy 41 .dup 1 42 := ⟨by decide +kernel, rfl⟩
theorem d_X10_rollBy_42 : gd cX10_rollBy 42 (.getfield 33) 3 45 := ⟨by decide +kernel, rfl⟩
theorem d_X10_rollBy_45 : gd cX10_rollBy 45 (.iconst 1) 1 46 := ⟨by decide +kernel, rfl⟩
theorem d_X10_rollBy_46 : gd cX10_rollBy 46 .iadd 1 47 := ⟨by decide +kernel, rfl⟩
theorem d_X10_rollBy_47 : gd cX10_rollBy 47 (.putfield 33) 3 50 := ⟨by decide +kernel, rfl⟩
theorem d_X10_rollBy_50 : gd cX10_rollBy 50 (.aload_n 0) 1 51 := ⟨by decide +kernel, rfl⟩
theorem d_X10_rollBy_51 : gd cX10_rollBy 51 (.aload_n 0) 1 52 := ⟨by decide +kernel, rfl⟩
theorem d_X10_rollBy_52 : gd cX10_rollBy 52 (.invokevirtual 84) 3 55 := ⟨by decide +kernel, rfl⟩
theorem d_X10_rollBy_55 : gd cX10_rollBy 55 (.iload_n 1) 1 56 := ⟨by decide +kernel, rfl⟩
theorem d_X10_rollBy_56 : gd cX10_rollBy 56 .iadd 1 57 := ⟨by decide +kernel, rfl⟩
theorem d_X10_rollBy_57 : gd cX10_rollBy 57 (.invokevirtual 87) 3 60 := ⟨by decide +kernel, rfl⟩
theorem d_X10_rollBy_60 : gd cX10_rollBy 60 (.aload_n 0) 1 61 := ⟨by decide +kernel, rfl⟩
theorem d_X10_rollBy_61 : gd cX10_rollBy 61 (.aload_n 0) 1 62 := ⟨by decide +kernel, rfl⟩
theorem d_X10_rollBy_62 : gd cX10_rollBy 62 (.invokevirtual 84) 3 65 := ⟨by decide +kernel, rfl⟩
theorem d_X10_rollBy_65 : gd cX10_rollBy 65 (.iload_n 1) 1 66 := ⟨by decide +kernel, rfl⟩
theorem d_X10_rollBy_66 : gd cX10_rollBy 66 .isub 1 67 := ⟨by decide +kernel, rfl⟩
theorem d_X10_rollBy_67 : gd cX10_rollBy 67 (.invokevirtual 87) 3 70 := ⟨by decide +kernel, rfl⟩
theorem d_X10_rollBy_70 : gd cX10_rollBy 70 (.aload_n 0) 1 71 := ⟨by decide +kernel, rfl⟩
theorem d_X10_rollBy_71 : gd cX10_rollBy 71 (.aload_n 0) 1 72 := ⟨by decide +kernel, rfl⟩
theorem d_X10_rollBy_72 : gd cX10_rollBy 72 (.invokevirtual 91) 3 75 := ⟨by decide +kernel, rfl⟩
theorem d_X10_rollBy_75 : gd cX10_rollBy 75 (.putfield 39) 3 78 := ⟨by decide +kernel, rfl⟩
theorem d_X10_rollBy_78 : gd cX10_rollBy 78 (.aload_n 0) 1 79 := ⟨by decide +kernel, rfl⟩
theorem d_X10_rollBy_79 : gd cX10_rollBy 79 (.invokevirtual 95) 3 82 := ⟨by decide +kernel, rfl⟩
theorem d_X10_rollBy_82 : gd cX10_rollBy 82 (.aload_n 0) 1 83 := ⟨by decide +kernel, rfl⟩
theorem d_X10_rollBy_83 : gd cX10_rollBy 83 (.invokevirtual 98) 3 86 := ⟨by decide +kernel, rfl⟩
theorem d_X10_rollBy_86 : gd cX10_rollBy 86 .iadd 1 87 := ⟨by decide +kernel, rfl⟩
theorem d_X10_rollBy_87 : gd cX10_rollBy 87 .ireturn 1 88 := ⟨by decide +kernel, rfl⟩
def Bo_X10_rollBy_2 (q2 : Nat → Int32 → Int32 → gs_M → Option (Int32 × gs_M)) (a0 : Nat) (x1 : Int32) (x2 : Int32) (μ : gs_M) : Option (Int32 × gs_M) :=
  if (gI μ a0 1) ≤ x2 then (lt1 (sI μ a0 2 ((gI μ a0 2) + (1 : Int32))) (fun u2 => bd (D_X10_lean a0 u2) (fun v5 u4 => bd0 (D_X10_restAll a0 (v5 + x1) u4) (fun u7 => bd (D_X10_lean a0 u7) (fun v10 u9 => bd0 (D_X10_restAll a0 (v10 - x1) u9) (fun u12 => bd (D_X10_isTooFar a0 u12) (fun v15 u14 => ck (zb v15) (lt1 (sI u14 a0 4 v15) (fun u16 => bd (D_X10_wentRight a0 u16) (fun v20 u19 => bd (D_X10_wentLeft a0 u19) (fun v23 u22 => some (v20 + v23, u22)))))))))))) else (ck (inb x2 4) (bd0 (D_X1_clearCounts (a0 + 2 + 2 * Int32.toNatClampNeg x2) μ) (fun u26 => ck (inb x2 4) (lt1 (sI u26 (a0 + 2 + 2 * Int32.toNatClampNeg x2) 5 ((gI u26 (a0 + 2 + 2 * Int32.toNatClampNeg x2) 5) + x1)) (fun u28 => q2 a0 x1 (x2 + (1 : Int32)) u28)))))
def L_X10_rollBy_2  : Nat → Nat → Int32 → Int32 → gs_M → Option (Int32 × gs_M)
  | 0 => fun _ _ _ _ => none
  | n + 1 => fun a0 x1 x2 μ => Bo_X10_rollBy_2  (L_X10_rollBy_2  n) a0 x1 x2 μ
def D_X10_rollBy (a0 : Nat) (x1 : Int32) (μ : gs_M) : Option (Int32 × gs_M) :=
  L_X10_rollBy_2 4096 a0 x1 (0 : Int32) μ
section S_X10_rollBy
variable {p : Program} {l : Launch} {e : Env} {R : Room} {s : State} {m : MethodId} {args : Array Value} {below : List Frame} {meth : Method} {c : Code} {ad : Nat → Nat} {g : va_G} {tyc : Nat → ClassId}
set_option maxRecDepth 20000 in
theorem To_X10_rollBy_2  (hK : KC p R s m args meth c ad g tyc RX10 cX10_rollBy 3 (some .int) 4) {r : Int32} {μ2 : gs_M} {q2 : Nat → Int32 → Int32 → gs_M → Option (Int32 × gs_M)} (hq2 : ∀ (a0 : Nat) (x1 : Int32) (x2 : Int32) (μ : gs_M), kd a0 = 9 → q2 a0 x1 x2 μ = some (r, μ2) → WJ p l e R s m args below meth c 0 0 (MQ below (gs_Q ad g tyc (some (.int r)) μ2) args s 0 0 (gs_A ad)) ad g tyc 3 2 [.ref a0, .int x1, .int x2] [] μ) {a0 : Nat} {x1 : Int32} {x2 : Int32} {μ : gs_M} (hk0 : kd a0 = 9) (hD : Bo_X10_rollBy_2 q2 a0 x1 x2 μ = some (r, μ2)) : WJ p l e R s m args below meth c 0 0 (MQ below (gs_Q ad g tyc (some (.int r)) μ2) args s 0 0 (gs_A ad)) ad g tyc 3 2 [.ref a0, .int x1, .int x2] [] μ := by
  unfold Bo_X10_rollBy_2 at hD
  refine r_iload_n hK d_X10_rollBy_2 rfl rfl ?_
  refine r_aload_n hK d_X10_rollBy_3 rfl rfl ?_
  refine r_getI hK d_X10_rollBy_4 fl_RX10_22_9 rfl hk0 ?_
  refine r_icmp_ge (tgt := 40) hK d_X10_rollBy_7 (by decide) (fun h1 => ?_) (fun h1 => ?_)
  · have hD := if_t hD h1
    refine r_aload_n hK d_X10_rollBy_40 rfl rfl ?_
    refine r_dup hK d_X10_rollBy_41 rfl ?_
    refine r_getI hK d_X10_rollBy_42 fl_RX10_33_9 rfl hk0 ?_
    refine r_iconst hK d_X10_rollBy_45 ci_1 ?_
    refine r_iadd hK d_X10_rollBy_46 ?_
    refine r_putI hK d_X10_rollBy_47 fl_RX10_33_9 rfl rfl hk0 ?_
    refine r_ltm hD (fun u2 hD => ?_)
    refine r_aload_n hK d_X10_rollBy_50 rfl rfl ?_
    refine r_aload_n hK d_X10_rollBy_51 rfl rfl ?_
    obtain ⟨v5, u4, e3, hD⟩ := bd_e hD
    refine r_callV (As := []) (st := [.ref a0]) (stk2 := [.int v5, .ref a0]) hK (C_X10_lean hk0 e3) d_X10_rollBy_52 mf_X10_lean ml_RX10_84 im_X10_lean rfl se_9_RX10_X10_lean hk0 rfl (Nat.le_of_ble_eq_true rfl) (by decide) ⟨Nat.zero_le _, Nat.zero_le _⟩ rfl rfl ?_
    refine r_iload_n hK d_X10_rollBy_55 rfl rfl ?_
    refine r_iadd hK d_X10_rollBy_56 ?_
    obtain ⟨u7, e6, hD⟩ := bd0_e hD
    refine r_callV (As := [.int (v5 + x1)]) (st := []) (stk2 := []) hK (C_X10_restAll hk0 e6) d_X10_rollBy_57 mf_X10_restAll ml_RX10_87 im_X10_restAll rfl se_9_RX10_X10_restAll hk0 rfl (Nat.le_of_ble_eq_true rfl) (by decide) ⟨Nat.zero_le _, Nat.zero_le _⟩ rfl rfl ?_
    refine r_aload_n hK d_X10_rollBy_60 rfl rfl ?_
    refine r_aload_n hK d_X10_rollBy_61 rfl rfl ?_
    obtain ⟨v10, u9, e8, hD⟩ := bd_e hD
    refine r_callV (As := []) (st := [.ref a0]) (stk2 := [.int v10, .ref a0]) hK (C_X10_lean hk0 e8) d_X10_rollBy_62 mf_X10_lean ml_RX10_84 im_X10_lean rfl se_9_RX10_X10_lean hk0 rfl (Nat.le_of_ble_eq_true rfl) (by decide) ⟨Nat.zero_le _, Nat.zero_le _⟩ rfl rfl ?_
    refine r_iload_n hK d_X10_rollBy_65 rfl rfl ?_
    refine r_isub hK d_X10_rollBy_66 ?_
    obtain ⟨u12, e11, hD⟩ := bd0_e hD
    refine r_callV (As := [.int (v10 - x1)]) (st := []) (stk2 := []) hK (C_X10_restAll hk0 e11) d_X10_rollBy_67 mf_X10_restAll ml_RX10_87 im_X10_restAll rfl se_9_RX10_X10_restAll hk0 rfl (Nat.le_of_ble_eq_true rfl) (by decide) ⟨Nat.zero_le _, Nat.zero_le _⟩ rfl rfl ?_
    refine r_aload_n hK d_X10_rollBy_70 rfl rfl ?_
    refine r_aload_n hK d_X10_rollBy_71 rfl rfl ?_
    obtain ⟨v15, u14, e13, hD⟩ := bd_e hD
    refine r_callV (As := []) (st := [.ref a0]) (stk2 := [.int v15, .ref a0]) hK (C_X10_isTooFar hk0 e13) d_X10_rollBy_72 mf_X10_isTooFar ml_RX10_91 im_X10_isTooFar rfl se_9_RX10_X10_isTooFar hk0 rfl (Nat.le_of_ble_eq_true rfl) (by decide) ⟨Nat.zero_le _, Nat.zero_le _⟩ rfl rfl ?_
    obtain ⟨h17, hD⟩ := ck_e hD
    refine r_putZ hK d_X10_rollBy_75 fl_RX10_39_9 rfl rfl hk0 (zb_e h17) ?_
    refine r_ltm hD (fun u16 hD => ?_)
    refine r_aload_n hK d_X10_rollBy_78 rfl rfl ?_
    obtain ⟨v20, u19, e18, hD⟩ := bd_e hD
    refine r_callV (As := []) (st := []) (stk2 := [.int v20]) hK (C_X10_wentRight hk0 e18) d_X10_rollBy_79 mf_X10_wentRight ml_RX10_95 im_X10_wentRight rfl se_9_RX10_X10_wentRight hk0 rfl (Nat.le_of_ble_eq_true rfl) (by decide) ⟨Nat.zero_le _, Nat.zero_le _⟩ rfl rfl ?_
    refine r_aload_n hK d_X10_rollBy_82 rfl rfl ?_
    obtain ⟨v23, u22, e21, hD⟩ := bd_e hD
    refine r_callV (As := []) (st := [.int v20]) (stk2 := [.int v23, .int v20]) hK (C_X10_wentLeft hk0 e21) d_X10_rollBy_83 mf_X10_wentLeft ml_RX10_98 im_X10_wentLeft rfl se_9_RX10_X10_wentLeft hk0 rfl (Nat.le_of_ble_eq_true rfl) (by decide) ⟨Nat.zero_le _, Nat.zero_le _⟩ rfl rfl ?_
    refine r_iadd hK d_X10_rollBy_86 ?_
    cases hD
    exact r_iret hK d_X10_rollBy_87
  · have hD := if_f hD h1
    refine r_aload_n hK d_X10_rollBy_10 rfl rfl ?_
    refine r_getR hK d_X10_rollBy_11 fl_RX10_12_9 rfl hk0 ?_
    refine r_ref (b := (a0 + 1)) ((ly_ves _ hk0).1.1) ?_
    refine r_iload_n hK d_X10_rollBy_14 rfl rfl ?_
    obtain ⟨h24, hD⟩ := ck_e hD
    refine r_aaldH hK d_X10_rollBy_15 ((ly_ves _ hk0).1.2.1) ((ly_ves _ hk0).1.2.2) (inb_in h24) ?_
    refine r_ref (b := (a0 + 2 + 2 * Int32.toNatClampNeg x2)) ((ly_vh _ hk0 _ (inb_lt h24)).1) ?_
    obtain ⟨u26, e25, hD⟩ := bd0_e hD
    refine r_callV (As := []) (st := []) (stk2 := []) hK (C_X1_clearCounts ((ly_vh _ hk0 _ (inb_lt h24)).2) e25) d_X10_rollBy_16 mf_X1_clearCounts ml_RX10_81 im_X1_clearCounts rfl se_1_RX1_X1_clearCounts ((ly_vh _ hk0 _ (inb_lt h24)).2) rfl (Nat.le_of_ble_eq_true rfl) (by decide) ⟨Nat.zero_le _, Nat.zero_le _⟩ rfl rfl ?_
    refine r_aload_n hK d_X10_rollBy_19 rfl rfl ?_
    refine r_getR hK d_X10_rollBy_20 fl_RX10_12_9 rfl hk0 ?_
    refine r_ref (b := (a0 + 1)) ((ly_ves _ hk0).1.1) ?_
    refine r_iload_n hK d_X10_rollBy_23 rfl rfl ?_
    obtain ⟨h27, hD⟩ := ck_e hD
    refine r_aaldH hK d_X10_rollBy_24 ((ly_ves _ hk0).1.2.1) ((ly_ves _ hk0).1.2.2) (inb_in h27) ?_
    refine r_ref (b := (a0 + 2 + 2 * Int32.toNatClampNeg x2)) ((ly_vh _ hk0 _ (inb_lt h27)).1) ?_
    refine r_dup hK d_X10_rollBy_25 rfl ?_
    refine r_getI hK d_X10_rollBy_26 fl_RX10_66_1 rfl ((ly_vh _ hk0 _ (inb_lt h27)).2) ?_
    refine r_iload_n hK d_X10_rollBy_29 rfl rfl ?_
    refine r_iadd hK d_X10_rollBy_30 ?_
    refine r_putI hK d_X10_rollBy_31 fl_RX10_66_1 rfl rfl ((ly_vh _ hk0 _ (inb_lt h27)).2) ?_
    refine r_ltm hD (fun u28 hD => ?_)
    refine r_iinc hK d_X10_rollBy_34 rfl (v := x2 + (1 : Int32)) (by rw [ci_1]) (by decide) (ls2 := [.ref a0, .int x1, .int (x2 + (1 : Int32))]) rfl ?_
    refine r_goto (tgt := 2) hK d_X10_rollBy_37 (by decide) ?_
    exact hq2 _ _ _ _ hk0 hD
set_option maxRecDepth 20000 in
theorem TL_X10_rollBy_2  (hK : KC p R s m args meth c ad g tyc RX10 cX10_rollBy 3 (some .int) 4) {r : Int32} {μ2 : gs_M}   : ∀ (n : Nat) (a0 : Nat) (x1 : Int32) (x2 : Int32) (μ : gs_M), kd a0 = 9 → L_X10_rollBy_2  n a0 x1 x2 μ = some (r, μ2) → WJ p l e R s m args below meth c 0 0 (MQ below (gs_Q ad g tyc (some (.int r)) μ2) args s 0 0 (gs_A ad)) ad g tyc 3 2 [.ref a0, .int x1, .int x2] [] μ := by
  intro n
  induction n with
  | zero => intro a0 x1 x2 μ hk0 hD; cases hD
  | succ n ih => intro a0 x1 x2 μ hk0 hD; exact To_X10_rollBy_2 hK  ih hk0 hD
set_option maxRecDepth 20000 in
theorem C_X10_rollBy  {a0 : Nat} {x1 : Int32} {μ : gs_M} {r : Int32} {μ2 : gs_M} (hk0 : kd a0 = 9) (hD : D_X10_rollBy a0 x1 μ = some (r, μ2)) : CALL yX10_rollBy cX10_rollBy 3 (some .int) 4 [.ref a0, .int x1] μ (some (.int r)) μ2 := by
  unfold D_X10_rollBy at hD
  refine gs_enter mf_X10_rollBy (Nat.le_of_ble_eq_true rfl) (ls := [.ref a0, .int x1, gs_J]) rfl (fun p l e R s m args below meth c ad g tyc hK => ?_)
  have hK : KC p R s m args meth c ad g tyc RX10 cX10_rollBy 3 (some .int) 4 := hK
  refine r_iconst hK d_X10_rollBy_0 ci_0 ?_
  refine r_istore_n hK d_X10_rollBy_1 rfl (by decide) (ls2 := [.ref a0, .int x1, .int (0 : Int32)]) rfl ?_
  exact TL_X10_rollBy_2 hK  _ _ _ _ _ hk0 hD
end S_X10_rollBy
theorem d_X10_heelBy_0 : gd cX10_heelBy 0 (.iconst 0) 1 1 := ⟨by decide +kernel, rfl⟩
theorem d_X10_heelBy_1 : gd cX10_heelBy 1 (.istore_n 2) 1 2 := ⟨by decide +kernel, rfl⟩
theorem d_X10_heelBy_2 : gd cX10_heelBy 2 (.iload_n 2) 1 3 := ⟨by decide +kernel, rfl⟩
theorem d_X10_heelBy_3 : gd cX10_heelBy 3 (.aload_n 0) 1 4 := ⟨by decide +kernel, rfl⟩
theorem d_X10_heelBy_4 : gd cX10_heelBy 4 (.getfield 22) 3 7 := ⟨by decide +kernel, rfl⟩
theorem d_X10_heelBy_7 : gd cX10_heelBy 7 (.if_icmp .ge 18) 3 10 := ⟨by decide +kernel, rfl⟩
theorem d_X10_heelBy_10 : gd cX10_heelBy 10 (.aload_n 0) 1 11 := ⟨by decide +kernel, rfl⟩
theorem d_X10_heelBy_11 : gd cX10_heelBy 11 (.getfield 12) 3 14 := ⟨by decide +kernel, rfl⟩
theorem d_X10_heelBy_14 : gd cX10_heelBy 14 (.iload_n 2) 1 15 := ⟨by decide +kernel, rfl⟩
theorem d_X10_heelBy_15 : gd cX10_heelBy 15 .aaload 1 16 := ⟨by decide +kernel, rfl⟩
theorem d_X10_heelBy_16 : gd cX10_heelBy 16 (.invokevirtual 81) 3 19 := ⟨by decide +kernel, rfl⟩
theorem d_X10_heelBy_19 : gd cX10_heelBy 19 (.iinc 2 1) 3 22 := ⟨by decide +kernel, rfl⟩
theorem d_X10_heelBy_22 : gd cX10_heelBy 22 (.goto (-20)) 3 25 := ⟨by decide +kernel, rfl⟩
theorem d_X10_heelBy_25 : gd cX10_heelBy 25 (.aload_n 0) 1 26 := ⟨by decide +kernel, rfl⟩
theorem d_X10_heelBy_26 : gd cX10_heelBy 26 (.aload_n 0) 1 27 := ⟨by decide +kernel, rfl⟩
theorem d_X10_heelBy_27 : gd cX10_heelBy 27 (.invokevirtual 84) 3 30 := ⟨by decide +kernel, rfl⟩
theorem d_X10_heelBy_30 : gd cX10_heelBy 30 (.iload_n 1) 1 31 := ⟨by decide +kernel, rfl⟩
theorem d_X10_heelBy_31 : gd cX10_heelBy 31 .iadd 1 32 := ⟨by decide +kernel, rfl⟩
theorem d_X10_heelBy_32 : gd cX10_heelBy 32 (.invokevirtual 87) 3 35 := ⟨by decide +kernel, rfl⟩
theorem d_X10_heelBy_35 : gd cX10_heelBy 35 (.aload_n 0) 1 36 := ⟨by decide +kernel, rfl⟩
theorem d_X10_heelBy_36 : gd cX10_heelBy 36 (.aload_n 0) 1 37 := ⟨by decide +kernel, rfl⟩
theorem d_X10_heelBy_37 : gd cX10_heelBy 37 (.invokevirtual 91) 3 40 := ⟨by decide +kernel, rfl⟩
theorem d_X10_heelBy_40 : gd cX10_heelBy 40 (.putfield 39) 3 43 := ⟨by decide +kernel, rfl⟩
theorem d_X10_heelBy_43 : gd cX10_heelBy 43 (.aload_n 0) 1 44 := ⟨by decide +kernel, rfl⟩
theorem d_X10_heelBy_44 : gd cX10_heelBy 44 (.invokevirtual 95) 3 47 := ⟨by decide +kernel, rfl⟩
theorem d_X10_heelBy_47 : gd cX10_heelBy 47 (.aload_n 0) 1 48 := ⟨by decide +kernel, rfl⟩
theorem d_X10_heelBy_48 : gd cX10_heelBy 48 (.invokevirtual 98) 3 51 := ⟨by decide +kernel, rfl⟩
theorem d_X10_heelBy_51 : gd cX10_heelBy 51 .iadd 1 52 := ⟨by decide +kernel, rfl⟩
theorem d_X10_heelBy_52 : gd cX10_heelBy 52 .ireturn 1 53 := ⟨by decide +kernel, rfl⟩
def Bo_X10_heelBy_2 (q2 : Nat → Int32 → Int32 → gs_M → Option (Int32 × gs_M)) (a0 : Nat) (x1 : Int32) (x2 : Int32) (μ : gs_M) : Option (Int32 × gs_M) :=
  if (gI μ a0 1) ≤ x2 then (bd (D_X10_lean a0 μ) (fun v4 u3 => bd0 (D_X10_restAll a0 (v4 + x1) u3) (fun u6 => bd (D_X10_isTooFar a0 u6) (fun v9 u8 => ck (zb v9) (lt1 (sI u8 a0 4 v9) (fun u10 => bd (D_X10_wentRight a0 u10) (fun v14 u13 => bd (D_X10_wentLeft a0 u13) (fun v17 u16 => some (v14 + v17, u16))))))))) else (ck (inb x2 4) (bd0 (D_X1_clearCounts (a0 + 2 + 2 * Int32.toNatClampNeg x2) μ) (fun u20 => q2 a0 x1 (x2 + (1 : Int32)) u20)))
def L_X10_heelBy_2  : Nat → Nat → Int32 → Int32 → gs_M → Option (Int32 × gs_M)
  | 0 => fun _ _ _ _ => none
  | n + 1 => fun a0 x1 x2 μ => Bo_X10_heelBy_2  (L_X10_heelBy_2  n) a0 x1 x2 μ
def D_X10_heelBy (a0 : Nat) (x1 : Int32) (μ : gs_M) : Option (Int32 × gs_M) :=
  L_X10_heelBy_2 4096 a0 x1 (0 : Int32) μ
section S_X10_heelBy
variable {p : Program} {l : Launch} {e : Env} {R : Room} {s : State} {m : MethodId} {args : Array Value} {below : List Frame} {meth : Method} {c : Code} {ad : Nat → Nat} {g : va_G} {tyc : Nat → ClassId}
set_option maxRecDepth 20000 in
theorem To_X10_heelBy_2  (hK : KC p R s m args meth c ad g tyc RX10 cX10_heelBy 3 (some .int) 4) {r : Int32} {μ2 : gs_M} {q2 : Nat → Int32 → Int32 → gs_M → Option (Int32 × gs_M)} (hq2 : ∀ (a0 : Nat) (x1 : Int32) (x2 : Int32) (μ : gs_M), kd a0 = 9 → q2 a0 x1 x2 μ = some (r, μ2) → WJ p l e R s m args below meth c 0 0 (MQ below (gs_Q ad g tyc (some (.int r)) μ2) args s 0 0 (gs_A ad)) ad g tyc 3 2 [.ref a0, .int x1, .int x2] [] μ) {a0 : Nat} {x1 : Int32} {x2 : Int32} {μ : gs_M} (hk0 : kd a0 = 9) (hD : Bo_X10_heelBy_2 q2 a0 x1 x2 μ = some (r, μ2)) : WJ p l e R s m args below meth c 0 0 (MQ below (gs_Q ad g tyc (some (.int r)) μ2) args s 0 0 (gs_A ad)) ad g tyc 3 2 [.ref a0, .int x1, .int x2] [] μ := by
  unfold Bo_X10_heelBy_2 at hD
  refine r_iload_n hK d_X10_heelBy_2 rfl rfl ?_
  refine r_aload_n hK d_X10_heelBy_3 rfl rfl ?_
  refine r_getI hK d_X10_heelBy_4 fl_RX10_22_9 rfl hk0 ?_
  refine r_icmp_ge (tgt := 25) hK d_X10_heelBy_7 (by decide) (fun h1 => ?_) (fun h1 => ?_)
  · have hD := if_t hD h1
    refine r_aload_n hK d_X10_heelBy_25 rfl rfl ?_
    refine r_aload_n hK d_X10_heelBy_26 rfl rfl ?_
    obtain ⟨v4, u3, e2, hD⟩ := bd_e hD
    refine r_callV (As := []) (st := [.ref a0]) (stk2 := [.int v4, .ref a0]) hK (C_X10_lean hk0 e2) d_X10_heelBy_27 mf_X10_lean ml_RX10_84 im_X10_lean rfl se_9_RX10_X10_lean hk0 rfl (Nat.le_of_ble_eq_true rfl) (by decide) ⟨Nat.zero_le _, Nat.zero_le _⟩ rfl rfl ?_
    refine r_iload_n hK d_X10_heelBy_30 rfl rfl ?_
    refine r_iadd hK d_X10_heelBy_31 ?_
    obtain ⟨u6, e5, hD⟩ := bd0_e hD
    refine r_callV (As := [.int (v4 + x1)]) (st := []) (stk2 := []) hK (C_X10_restAll hk0 e5) d_X10_heelBy_32 mf_X10_restAll ml_RX10_87 im_X10_restAll rfl se_9_RX10_X10_restAll hk0 rfl (Nat.le_of_ble_eq_true rfl) (by decide) ⟨Nat.zero_le _, Nat.zero_le _⟩ rfl rfl ?_
    refine r_aload_n hK d_X10_heelBy_35 rfl rfl ?_
    refine r_aload_n hK d_X10_heelBy_36 rfl rfl ?_
    obtain ⟨v9, u8, e7, hD⟩ := bd_e hD
    refine r_callV (As := []) (st := [.ref a0]) (stk2 := [.int v9, .ref a0]) hK (C_X10_isTooFar hk0 e7) d_X10_heelBy_37 mf_X10_isTooFar ml_RX10_91 im_X10_isTooFar rfl se_9_RX10_X10_isTooFar hk0 rfl (Nat.le_of_ble_eq_true rfl) (by decide) ⟨Nat.zero_le _, Nat.zero_le _⟩ rfl rfl ?_
    obtain ⟨h11, hD⟩ := ck_e hD
    refine r_putZ hK d_X10_heelBy_40 fl_RX10_39_9 rfl rfl hk0 (zb_e h11) ?_
    refine r_ltm hD (fun u10 hD => ?_)
    refine r_aload_n hK d_X10_heelBy_43 rfl rfl ?_
    obtain ⟨v14, u13, e12, hD⟩ := bd_e hD
    refine r_callV (As := []) (st := []) (stk2 := [.int v14]) hK (C_X10_wentRight hk0 e12) d_X10_heelBy_44 mf_X10_wentRight ml_RX10_95 im_X10_wentRight rfl se_9_RX10_X10_wentRight hk0 rfl (Nat.le_of_ble_eq_true rfl) (by decide) ⟨Nat.zero_le _, Nat.zero_le _⟩ rfl rfl ?_
    refine r_aload_n hK d_X10_heelBy_47 rfl rfl ?_
    obtain ⟨v17, u16, e15, hD⟩ := bd_e hD
    refine r_callV (As := []) (st := [.int v14]) (stk2 := [.int v17, .int v14]) hK (C_X10_wentLeft hk0 e15) d_X10_heelBy_48 mf_X10_wentLeft ml_RX10_98 im_X10_wentLeft rfl se_9_RX10_X10_wentLeft hk0 rfl (Nat.le_of_ble_eq_true rfl) (by decide) ⟨Nat.zero_le _, Nat.zero_le _⟩ rfl rfl ?_
    refine r_iadd hK d_X10_heelBy_51 ?_
    cases hD
    exact r_iret hK d_X10_heelBy_52
  · have hD := if_f hD h1
    refine r_aload_n hK d_X10_heelBy_10 rfl rfl ?_
    refine r_getR hK d_X10_heelBy_11 fl_RX10_12_9 rfl hk0 ?_
    refine r_ref (b := (a0 + 1)) ((ly_ves _ hk0).1.1) ?_
    refine r_iload_n hK d_X10_heelBy_14 rfl rfl ?_
    obtain ⟨h18, hD⟩ := ck_e hD
    refine r_aaldH hK d_X10_heelBy_15 ((ly_ves _ hk0).1.2.1) ((ly_ves _ hk0).1.2.2) (inb_in h18) ?_
    refine r_ref (b := (a0 + 2 + 2 * Int32.toNatClampNeg x2)) ((ly_vh _ hk0 _ (inb_lt h18)).1) ?_
    obtain ⟨u20, e19, hD⟩ := bd0_e hD
    refine r_callV (As := []) (st := []) (stk2 := []) hK (C_X1_clearCounts ((ly_vh _ hk0 _ (inb_lt h18)).2) e19) d_X10_heelBy_16 mf_X1_clearCounts ml_RX10_81 im_X1_clearCounts rfl se_1_RX1_X1_clearCounts ((ly_vh _ hk0 _ (inb_lt h18)).2) rfl (Nat.le_of_ble_eq_true rfl) (by decide) ⟨Nat.zero_le _, Nat.zero_le _⟩ rfl rfl ?_
    refine r_iinc hK d_X10_heelBy_19 rfl (v := x2 + (1 : Int32)) (by rw [ci_1]) (by decide) (ls2 := [.ref a0, .int x1, .int (x2 + (1 : Int32))]) rfl ?_
    refine r_goto (tgt := 2) hK d_X10_heelBy_22 (by decide) ?_
    exact hq2 _ _ _ _ hk0 hD
set_option maxRecDepth 20000 in
theorem TL_X10_heelBy_2  (hK : KC p R s m args meth c ad g tyc RX10 cX10_heelBy 3 (some .int) 4) {r : Int32} {μ2 : gs_M}   : ∀ (n : Nat) (a0 : Nat) (x1 : Int32) (x2 : Int32) (μ : gs_M), kd a0 = 9 → L_X10_heelBy_2  n a0 x1 x2 μ = some (r, μ2) → WJ p l e R s m args below meth c 0 0 (MQ below (gs_Q ad g tyc (some (.int r)) μ2) args s 0 0 (gs_A ad)) ad g tyc 3 2 [.ref a0, .int x1, .int x2] [] μ := by
  intro n
  induction n with
  | zero => intro a0 x1 x2 μ hk0 hD; cases hD
  | succ n ih => intro a0 x1 x2 μ hk0 hD; exact To_X10_heelBy_2 hK  ih hk0 hD
set_option maxRecDepth 20000 in
theorem C_X10_heelBy  {a0 : Nat} {x1 : Int32} {μ : gs_M} {r : Int32} {μ2 : gs_M} (hk0 : kd a0 = 9) (hD : D_X10_heelBy a0 x1 μ = some (r, μ2)) : CALL yX10_heelBy cX10_heelBy 3 (some .int) 4 [.ref a0, .int x1] μ (some (.int r)) μ2 := by
  unfold D_X10_heelBy at hD
  refine gs_enter mf_X10_heelBy (Nat.le_of_ble_eq_true rfl) (ls := [.ref a0, .int x1, gs_J]) rfl (fun p l e R s m args below meth c ad g tyc hK => ?_)
  have hK : KC p R s m args meth c ad g tyc RX10 cX10_heelBy 3 (some .int) 4 := hK
  refine r_iconst hK d_X10_heelBy_0 ci_0 ?_
  refine r_istore_n hK d_X10_heelBy_1 rfl (by decide) (ls2 := [.ref a0, .int x1, .int (0 : Int32)]) rfl ?_
  exact TL_X10_heelBy_2 hK  _ _ _ _ _ hk0 hD
end S_X10_heelBy
theorem d_X10_drawOfSix_0 : gd cX10_drawOfSix 0 (.aload_n 0) 1 1 := ⟨by decide +kernel, rfl⟩
theorem d_X10_drawOfSix_1 : gd cX10_drawOfSix 1 (.aload_n 0) 1 2 := ⟨by decide +kernel, rfl⟩
theorem d_X10_drawOfSix_2 : gd cX10_drawOfSix 2 (.getfield 43) 3 5 := ⟨by decide +kernel, rfl⟩
theorem d_X10_drawOfSix_5 : gd cX10_drawOfSix 5 (.ldc2_w 114) 3 8 := ⟨by decide +kernel, rfl⟩
theorem d_X10_drawOfSix_8 : gd cX10_drawOfSix 8 .lmul 1 9 := ⟨by decide +kernel, rfl⟩
theorem d_X10_drawOfSix_9 : gd cX10_drawOfSix 9 (.ldc2_w 116) 3 12 := ⟨by decide +kernel, rfl⟩
theorem d_X10_drawOfSix_12 : gd cX10_drawOfSix 12 .ladd 1 13 := ⟨by decide +kernel, rfl⟩
theorem d_X10_drawOfSix_13 : gd cX10_drawOfSix 13 (.putfield 43) 3 16 := ⟨by decide +kernel, rfl⟩
theorem d_X10_drawOfSix_16 : gd cX10_drawOfSix 16 (.aload_n 0) 1 17 := ⟨by decide +kernel, rfl⟩
theorem d_X10_drawOfSix_17 : gd cX10_drawOfSix 17 (.getfield 43) 3 20 := ⟨by decide +kernel, rfl⟩
theorem d_X10_drawOfSix_20 : gd cX10_drawOfSix 20 (.bipush 33) 2 22 := ⟨by decide +kernel, rfl⟩
theorem d_X10_drawOfSix_22 : gd cX10_drawOfSix 22 .lushr 1 23 := ⟨by decide +kernel, rfl⟩
theorem d_X10_drawOfSix_23 : gd cX10_drawOfSix 23 (.ldc2_w 118) 3 26 := ⟨by decide +kernel, rfl⟩
theorem d_X10_drawOfSix_26 : gd cX10_drawOfSix 26 .lrem 1 27 := ⟨by decide +kernel, rfl⟩
theorem d_X10_drawOfSix_27 : gd cX10_drawOfSix 27 .l2i 1 28 := ⟨by decide +kernel, rfl⟩
theorem d_X10_drawOfSix_28 : gd cX10_drawOfSix 28 .ireturn 1 29 := ⟨by decide +kernel, rfl⟩
def D_X10_drawOfSix (a0 : Nat) (μ : gs_M) : Option (Int32 × gs_M) :=
  lt1 (sL μ a0 5 (((gL μ a0 5) * (6364136223846793005 : Int64)) + (1442695040888963407 : Int64))) (fun u1 => some (Int64.toInt32 (((Int64.toUInt64 (gL u1 a0 5) >>> ((Int32.toInt64 (33 : Int32)).toUInt64 &&& Int64.toUInt64 63)).toInt64) - ((Int64.toUInt64 (gL u1 a0 5) >>> ((Int32.toInt64 (33 : Int32)).toUInt64 &&& Int64.toUInt64 63)).toInt64) / (6 : Int64) * (6 : Int64)), u1))
section S_X10_drawOfSix
variable {p : Program} {l : Launch} {e : Env} {R : Room} {s : State} {m : MethodId} {args : Array Value} {below : List Frame} {meth : Method} {c : Code} {ad : Nat → Nat} {g : va_G} {tyc : Nat → ClassId}
set_option maxRecDepth 20000 in
theorem C_X10_drawOfSix  {a0 : Nat} {μ : gs_M} {r : Int32} {μ2 : gs_M} (hk0 : kd a0 = 9) (hD : D_X10_drawOfSix a0 μ = some (r, μ2)) : CALL yX10_drawOfSix cX10_drawOfSix 1 (some .int) 0 [.ref a0] μ (some (.int r)) μ2 := by
  unfold D_X10_drawOfSix at hD
  refine gs_enter mf_X10_drawOfSix (Nat.le_of_ble_eq_true rfl) (ls := [.ref a0]) rfl (fun p l e R s m args below meth c ad g tyc hK => ?_)
  have hK : KC p R s m args meth c ad g tyc RX10 cX10_drawOfSix 1 (some .int) 0 := hK
  refine r_aload_n hK d_X10_drawOfSix_0 rfl rfl ?_
  refine r_aload_n hK d_X10_drawOfSix_1 rfl rfl ?_
  refine r_getL hK d_X10_drawOfSix_2 fl_RX10_43_9 rfl hk0 ?_
  refine r_ldc2 hK d_X10_drawOfSix_5 kl_RX10_114 ?_
  refine r_lmul hK d_X10_drawOfSix_8 ?_
  refine r_ldc2 hK d_X10_drawOfSix_9 kl_RX10_116 ?_
  refine r_ladd hK d_X10_drawOfSix_12 ?_
  refine r_putL hK d_X10_drawOfSix_13 fl_RX10_43_9 rfl rfl hk0 ?_
  refine r_ltm hD (fun u1 hD => ?_)
  refine r_aload_n hK d_X10_drawOfSix_16 rfl rfl ?_
  refine r_getL hK d_X10_drawOfSix_17 fl_RX10_43_9 rfl hk0 ?_
  refine r_bipush hK d_X10_drawOfSix_20 cb_33 ?_
  refine r_lushr hK d_X10_drawOfSix_22 ?_
  refine r_ldc2 hK d_X10_drawOfSix_23 kl_RX10_118 ?_
  refine r_lrem hK d_X10_drawOfSix_26 (by decide) ?_
  refine r_l2i hK d_X10_drawOfSix_27 ?_
  cases hD
  exact r_iret hK d_X10_drawOfSix_28
end S_X10_drawOfSix
theorem d_X10_sail_0 : gd cX10_sail 0 (.iconst 0) 1 1 := ⟨by decide +kernel, rfl⟩
theorem d_X10_sail_1 : gd cX10_sail 1 (.istore_n 3) 1 2 := ⟨by decide +kernel, rfl⟩
theorem d_X10_sail_2 : gd cX10_sail 2 (.iload_n 3) 1 3 := ⟨by decide +kernel, rfl⟩
theorem d_X10_sail_3 : gd cX10_sail 3 (.iload_n 2) 1 4 := ⟨by decide +kernel, rfl⟩
theorem d_X10_sail_4 : gd cX10_sail 4 (.if_icmp .ge 87) 3 7 := ⟨by decide +kernel, rfl⟩
theorem d_X10_sail_7 : gd cX10_sail 7 (.aload_n 0) 1 8 := ⟨by decide +kernel, rfl⟩
theorem d_X10_sail_8 : gd cX10_sail 8 (.getfield 39) 3 11 := ⟨by decide +kernel, rfl⟩
theorem d_X10_sail_11 : gd cX10_sail 11 (.ifCond .ne 80) 3 14 := ⟨by decide +kernel, rfl⟩
theorem d_X10_sail_14 : gd cX10_sail 14 (.iconst 0) 1 15 := ⟨by decide +kernel, rfl⟩
theorem d_X10_sail_15 : gd cX10_sail 15 (.istore 4) 2 17 := ⟨by decide +kernel, rfl⟩
theorem d_X10_sail_17 : gd cX10_sail 17 (.iload 4) 2 19 := ⟨by decide +kernel, rfl⟩
theorem d_X10_sail_19 : gd cX10_sail 19 (.aload_n 0) 1 20 := ⟨by decide +kernel, rfl⟩
theorem d_X10_sail_20 : gd cX10_sail 20 (.getfield 22) 3 23 := ⟨by decide +kernel, rfl⟩
theorem d_X10_sail_23 : gd cX10_sail 23 (.if_icmp .ge 19) 3 26 := ⟨by decide +kernel, rfl⟩
theorem d_X10_sail_26 : gd cX10_sail 26 (.aload_n 0) 1 27 := ⟨by decide +kernel, rfl⟩
theorem d_X10_sail_27 : gd cX10_sail 27 (.getfield 12) 3 30 := ⟨by decide +kernel, rfl⟩
theorem d_X10_sail_30 : gd cX10_sail 30 (.iload 4) 2 32 := ⟨by decide +kernel, rfl⟩
theorem d_X10_sail_32 : gd cX10_sail 32 .aaload 1 33 := ⟨by decide +kernel, rfl⟩
theorem d_X10_sail_33 : gd cX10_sail 33 (.invokevirtual 120) 3 36 := ⟨by decide +kernel, rfl⟩
theorem d_X10_sail_36 : gd cX10_sail 36 (.iinc 4 1) 3 39 := ⟨by decide +kernel, rfl⟩
theorem d_X10_sail_39 : gd cX10_sail 39 (.goto (-22)) 3 42 := ⟨by decide +kernel, rfl⟩
theorem d_X10_sail_42 : gd cX10_sail 42 (.iconst 0) 1 43 := ⟨by decide +kernel, rfl⟩
theorem d_X10_sail_43 : gd cX10_sail 43 (.istore 4) 2 45 := ⟨by decide +kernel, rfl⟩
theorem d_X10_sail_45 : gd cX10_sail 45 (.iload 4) 2 47 := ⟨by decide +kernel, rfl⟩
theorem d_X10_sail_47 : gd cX10_sail 47 (.iconst 4) 1 48 := ⟨by decide +kernel, rfl⟩
theorem d_X10_sail_48 : gd cX10_sail 48 (.if_icmp .ge 27) 3 51 := ⟨by decide +kernel, rfl⟩
theorem d_X10_sail_51 : gd cX10_sail 51 (.aload_n 0) 1 52 := ⟨by decide +kernel, rfl⟩
theorem d_X10_sail_52 : gd cX10_sail 52 (.getfield 39) 3 55 := ⟨by decide +kernel, rfl⟩
theorem d_X10_sail_55 : gd cX10_sail 55 (.ifCond .ne 20) 3 58 := ⟨by decide +kernel, rfl⟩
theorem d_X10_sail_58 : gd cX10_sail 58 (.aload_n 0) 1 59 := ⟨by decide +kernel, rfl⟩
theorem d_X10_sail_59 : gd cX10_sail 59 (.iload_n 1) 1 60 := ⟨by decide +kernel, rfl⟩
theorem d_X10_sail_60 : gd cX10_sail 60 (.aload_n 0) 1 61 := ⟨by decide +kernel, rfl⟩
theorem d_X10_sail_61 : gd cX10_sail 61 (.invokevirtual 123) 3 64 := ⟨by decide +kernel, rfl⟩
theorem d_X10_sail_64 : gd cX10_sail 64 .iadd 1 65 := ⟨by decide +kernel, rfl⟩
theorem d_X10_sail_65 : gd cX10_sail 65 (.invokevirtual 126) 3 68 := ⟨by decide +kernel, rfl⟩
theorem d_X10_sail_68 : gd cX10_sail 68 .pop 1 69 := ⟨by decide +kernel, rfl⟩
theorem d_X10_sail_69 : gd cX10_sail 69 (.iinc 4 1) 3 72 := ⟨by decide +kernel, rfl⟩
theorem d_X10_sail_72 : gd cX10_sail 72 (.goto (-27)) 3 75 := ⟨by decide +kernel, rfl⟩
theorem d_X10_sail_75 : gd cX10_sail 75 (.aload_n 0) 1 76 := ⟨by decide +kernel, rfl⟩
theorem d_X10_sail_76 : gd cX10_sail 76 .dup 1 77 := ⟨by decide +kernel, rfl⟩
theorem d_X10_sail_77 : gd cX10_sail 77 (.getfield 36) 3 80 := ⟨by decide +kernel, rfl⟩
theorem d_X10_sail_80 : gd cX10_sail 80 (.iconst 1) 1 81 := ⟨by decide +kernel, rfl⟩
theorem d_X10_sail_81 : gd cX10_sail 81 .iadd 1 82 := ⟨by decide +kernel, rfl⟩
theorem d_X10_sail_82 : gd cX10_sail 82 (.putfield 36) 3 85 := ⟨by decide +kernel, rfl⟩
theorem d_X10_sail_85 : gd cX10_sail 85 (.iinc 3 1) 3 88 := ⟨by decide +kernel, rfl⟩
theorem d_X10_sail_88 : gd cX10_sail 88 (.goto (-86)) 3 91 := ⟨by decide +kernel, rfl⟩
theorem d_X10_sail_91 : gd cX10_sail 91 .return_ 1 92 := ⟨by decide +kernel, rfl⟩
def B_X10_sail_75 (q2 : Nat → Int32 → Int32 → Int32 → gs_M → Option (gs_M)) (a0 : Nat) (x1 : Int32) (x2 : Int32) (x3 : Int32) (μ : gs_M) : Option (gs_M) :=
  lt1 (sI μ a0 3 ((gI μ a0 3) + (1 : Int32))) (fun u1 => q2 a0 x1 x2 (x3 + (1 : Int32)) u1)
def Bo_X10_sail_45 (q2 : Nat → Int32 → Int32 → Int32 → gs_M → Option (gs_M)) (q45 : Nat → Int32 → Int32 → Int32 → Int32 → gs_M → Option (gs_M)) (a0 : Nat) (x1 : Int32) (x2 : Int32) (x3 : Int32) (x4 : Int32) (μ : gs_M) : Option (gs_M) :=
  if (4 : Int32) ≤ x4 then (B_X10_sail_75 q2 a0 x1 x2 x3 μ) else (if (gI μ a0 4) = 0 then (bd (D_X10_drawOfSix a0 μ) (fun v5 u4 => bd (D_X10_rollBy a0 (x1 + v5) u4) (fun v8 u7 => q45 a0 x1 x2 x3 (x4 + (1 : Int32)) u7))) else (B_X10_sail_75 q2 a0 x1 x2 x3 μ))
def L_X10_sail_45 (q2 : Nat → Int32 → Int32 → Int32 → gs_M → Option (gs_M)) : Nat → Nat → Int32 → Int32 → Int32 → Int32 → gs_M → Option (gs_M)
  | 0 => fun _ _ _ _ _ _ => none
  | n + 1 => fun a0 x1 x2 x3 x4 μ => Bo_X10_sail_45 q2 (L_X10_sail_45 q2 n) a0 x1 x2 x3 x4 μ
def Bo_X10_sail_17 (q2 : Nat → Int32 → Int32 → Int32 → gs_M → Option (gs_M)) (q17 : Nat → Int32 → Int32 → Int32 → Int32 → gs_M → Option (gs_M)) (a0 : Nat) (x1 : Int32) (x2 : Int32) (x3 : Int32) (x4 : Int32) (μ : gs_M) : Option (gs_M) :=
  if (gI μ a0 1) ≤ x4 then (L_X10_sail_45 q2 4096 a0 x1 x2 x3 (0 : Int32) μ) else (ck (inb x4 4) (bd0 (D_X1_settleOneDay (a0 + 2 + 2 * Int32.toNatClampNeg x4) μ) (fun u4 => q17 a0 x1 x2 x3 (x4 + (1 : Int32)) u4)))
def L_X10_sail_17 (q2 : Nat → Int32 → Int32 → Int32 → gs_M → Option (gs_M)) : Nat → Nat → Int32 → Int32 → Int32 → Int32 → gs_M → Option (gs_M)
  | 0 => fun _ _ _ _ _ _ => none
  | n + 1 => fun a0 x1 x2 x3 x4 μ => Bo_X10_sail_17 q2 (L_X10_sail_17 q2 n) a0 x1 x2 x3 x4 μ
def Bo_X10_sail_2 (q2 : Nat → Int32 → Int32 → Int32 → gs_M → Option (gs_M)) (a0 : Nat) (x1 : Int32) (x2 : Int32) (x3 : Int32) (μ : gs_M) : Option (gs_M) :=
  if x2 ≤ x3 then (some μ) else (if (gI μ a0 4) = 0 then (L_X10_sail_17 q2 4096 a0 x1 x2 x3 (0 : Int32) μ) else (some μ))
def L_X10_sail_2  : Nat → Nat → Int32 → Int32 → Int32 → gs_M → Option (gs_M)
  | 0 => fun _ _ _ _ _ => none
  | n + 1 => fun a0 x1 x2 x3 μ => Bo_X10_sail_2  (L_X10_sail_2  n) a0 x1 x2 x3 μ
def D_X10_sail (a0 : Nat) (x1 : Int32) (x2 : Int32) (μ : gs_M) : Option (gs_M) :=
  L_X10_sail_2 4096 a0 x1 x2 (0 : Int32) μ
section S_X10_sail
variable {p : Program} {l : Launch} {e : Env} {R : Room} {s : State} {m : MethodId} {args : Array Value} {below : List Frame} {meth : Method} {c : Code} {ad : Nat → Nat} {g : va_G} {tyc : Nat → ClassId}
set_option maxRecDepth 20000 in
theorem T_X10_sail_75  (hK : KC p R s m args meth c ad g tyc RX10 cX10_sail 5 none 5) {μ2 : gs_M} {q2 : Nat → Int32 → Int32 → Int32 → gs_M → Option (gs_M)} (hq2 : ∀ (a0 : Nat) (x1 : Int32) (x2 : Int32) (x3 : Int32) (μ : gs_M), kd a0 = 9 → q2 a0 x1 x2 x3 μ = some μ2 → WJ p l e R s m args below meth c 0 0 (MQ below (gs_Q ad g tyc none μ2) args s 0 0 (gs_A ad)) ad g tyc 5 2 [.ref a0, .int x1, .int x2, .int x3, gs_J] [] μ) {a0 : Nat} {x1 : Int32} {x2 : Int32} {x3 : Int32} {μ : gs_M} (hk0 : kd a0 = 9) (hD : B_X10_sail_75 q2 a0 x1 x2 x3 μ = some μ2) : WJ p l e R s m args below meth c 0 0 (MQ below (gs_Q ad g tyc none μ2) args s 0 0 (gs_A ad)) ad g tyc 5 75 [.ref a0, .int x1, .int x2, .int x3, gs_J] [] μ := by
  unfold B_X10_sail_75 at hD
  refine r_aload_n hK d_X10_sail_75 rfl rfl ?_
  refine r_dup hK d_X10_sail_76 rfl ?_
  refine r_getI hK d_X10_sail_77 fl_RX10_36_9 rfl hk0 ?_
  refine r_iconst hK d_X10_sail_80 ci_1 ?_
  refine r_iadd hK d_X10_sail_81 ?_
  refine r_putI hK d_X10_sail_82 fl_RX10_36_9 rfl rfl hk0 ?_
  refine r_ltm hD (fun u1 hD => ?_)
  refine r_iinc hK d_X10_sail_85 rfl (v := x3 + (1 : Int32)) (by rw [ci_1]) (by decide) (ls2 := [.ref a0, .int x1, .int x2, .int (x3 + (1 : Int32)), gs_J]) rfl ?_
  refine r_goto (tgt := 2) hK d_X10_sail_88 (by decide) ?_
  exact hq2 _ _ _ _ _ hk0 hD
set_option maxRecDepth 20000 in
theorem To_X10_sail_45  (hK : KC p R s m args meth c ad g tyc RX10 cX10_sail 5 none 5) {μ2 : gs_M} {q2 : Nat → Int32 → Int32 → Int32 → gs_M → Option (gs_M)} {q45 : Nat → Int32 → Int32 → Int32 → Int32 → gs_M → Option (gs_M)} (hq2 : ∀ (a0 : Nat) (x1 : Int32) (x2 : Int32) (x3 : Int32) (μ : gs_M), kd a0 = 9 → q2 a0 x1 x2 x3 μ = some μ2 → WJ p l e R s m args below meth c 0 0 (MQ below (gs_Q ad g tyc none μ2) args s 0 0 (gs_A ad)) ad g tyc 5 2 [.ref a0, .int x1, .int x2, .int x3, gs_J] [] μ) (hq45 : ∀ (a0 : Nat) (x1 : Int32) (x2 : Int32) (x3 : Int32) (x4 : Int32) (μ : gs_M), kd a0 = 9 → q45 a0 x1 x2 x3 x4 μ = some μ2 → WJ p l e R s m args below meth c 0 0 (MQ below (gs_Q ad g tyc none μ2) args s 0 0 (gs_A ad)) ad g tyc 5 45 [.ref a0, .int x1, .int x2, .int x3, .int x4] [] μ) {a0 : Nat} {x1 : Int32} {x2 : Int32} {x3 : Int32} {x4 : Int32} {μ : gs_M} (hk0 : kd a0 = 9) (hD : Bo_X10_sail_45 q2 q45 a0 x1 x2 x3 x4 μ = some μ2) : WJ p l e R s m args below meth c 0 0 (MQ below (gs_Q ad g tyc none μ2) args s 0 0 (gs_A ad)) ad g tyc 5 45 [.ref a0, .int x1, .int x2, .int x3, .int x4] [] μ := by
  unfold Bo_X10_sail_45 at hD
  refine r_iload hK d_X10_sail_45 rfl ?_
  refine r_iconst hK d_X10_sail_47 ci_4 ?_
  refine r_icmp_ge (tgt := 75) hK d_X10_sail_48 (by decide) (fun h1 => ?_) (fun h1 => ?_)
  · have hD := if_t hD h1
    refine r_junk [true, true, true, true, false] (ls2 := [.ref a0, .int x1, .int x2, .int x3, gs_J]) rfl ?_
    exact T_X10_sail_75 hK hq2 hk0 hD
  · have hD := if_f hD h1
    refine r_aload_n hK d_X10_sail_51 rfl rfl ?_
    refine r_getZ hK d_X10_sail_52 fl_RX10_39_9 rfl hk0 ?_
    refine r_if_ne (tgt := 75) hK d_X10_sail_55 (by decide) (fun h2 => ?_) (fun h2 => ?_)
    · have hD := if_f hD h2
      refine r_junk [true, true, true, true, false] (ls2 := [.ref a0, .int x1, .int x2, .int x3, gs_J]) rfl ?_
      exact T_X10_sail_75 hK hq2 hk0 hD
    · have hD := if_t hD h2
      refine r_aload_n hK d_X10_sail_58 rfl rfl ?_
      refine r_iload_n hK d_X10_sail_59 rfl rfl ?_
      refine r_aload_n hK d_X10_sail_60 rfl rfl ?_
      obtain ⟨v5, u4, e3, hD⟩ := bd_e hD
      refine r_callV (As := []) (st := [.int x1, .ref a0]) (stk2 := [.int v5, .int x1, .ref a0]) hK (C_X10_drawOfSix hk0 e3) d_X10_sail_61 mf_X10_drawOfSix ml_RX10_123 im_X10_drawOfSix rfl se_9_RX10_X10_drawOfSix hk0 rfl (Nat.le_of_ble_eq_true rfl) (by decide) ⟨Nat.zero_le _, Nat.zero_le _⟩ rfl rfl ?_
      refine r_iadd hK d_X10_sail_64 ?_
      obtain ⟨v8, u7, e6, hD⟩ := bd_e hD
      refine r_callV (As := [.int (x1 + v5)]) (st := []) (stk2 := [.int v8]) hK (C_X10_rollBy hk0 e6) d_X10_sail_65 mf_X10_rollBy ml_RX10_126 im_X10_rollBy rfl se_9_RX10_X10_rollBy hk0 rfl (Nat.le_of_ble_eq_true rfl) (by decide) ⟨Nat.zero_le _, Nat.zero_le _⟩ rfl rfl ?_
      refine r_pop hK d_X10_sail_68 rfl ?_
      refine r_iinc hK d_X10_sail_69 rfl (v := x4 + (1 : Int32)) (by rw [ci_1]) (by decide) (ls2 := [.ref a0, .int x1, .int x2, .int x3, .int (x4 + (1 : Int32))]) rfl ?_
      refine r_goto (tgt := 45) hK d_X10_sail_72 (by decide) ?_
      exact hq45 _ _ _ _ _ _ hk0 hD
set_option maxRecDepth 20000 in
theorem TL_X10_sail_45  (hK : KC p R s m args meth c ad g tyc RX10 cX10_sail 5 none 5) {μ2 : gs_M} {q2 : Nat → Int32 → Int32 → Int32 → gs_M → Option (gs_M)} (hq2 : ∀ (a0 : Nat) (x1 : Int32) (x2 : Int32) (x3 : Int32) (μ : gs_M), kd a0 = 9 → q2 a0 x1 x2 x3 μ = some μ2 → WJ p l e R s m args below meth c 0 0 (MQ below (gs_Q ad g tyc none μ2) args s 0 0 (gs_A ad)) ad g tyc 5 2 [.ref a0, .int x1, .int x2, .int x3, gs_J] [] μ) : ∀ (n : Nat) (a0 : Nat) (x1 : Int32) (x2 : Int32) (x3 : Int32) (x4 : Int32) (μ : gs_M), kd a0 = 9 → L_X10_sail_45 q2 n a0 x1 x2 x3 x4 μ = some μ2 → WJ p l e R s m args below meth c 0 0 (MQ below (gs_Q ad g tyc none μ2) args s 0 0 (gs_A ad)) ad g tyc 5 45 [.ref a0, .int x1, .int x2, .int x3, .int x4] [] μ := by
  intro n
  induction n with
  | zero => intro a0 x1 x2 x3 x4 μ hk0 hD; cases hD
  | succ n ih => intro a0 x1 x2 x3 x4 μ hk0 hD; exact To_X10_sail_45 hK hq2 ih hk0 hD
set_option maxRecDepth 20000 in
theorem To_X10_sail_17  (hK : KC p R s m args meth c ad g tyc RX10 cX10_sail 5 none 5) {μ2 : gs_M} {q2 : Nat → Int32 → Int32 → Int32 → gs_M → Option (gs_M)} {q17 : Nat → Int32 → Int32 → Int32 → Int32 → gs_M → Option (gs_M)} (hq2 : ∀ (a0 : Nat) (x1 : Int32) (x2 : Int32) (x3 : Int32) (μ : gs_M), kd a0 = 9 → q2 a0 x1 x2 x3 μ = some μ2 → WJ p l e R s m args below meth c 0 0 (MQ below (gs_Q ad g tyc none μ2) args s 0 0 (gs_A ad)) ad g tyc 5 2 [.ref a0, .int x1, .int x2, .int x3, gs_J] [] μ) (hq17 : ∀ (a0 : Nat) (x1 : Int32) (x2 : Int32) (x3 : Int32) (x4 : Int32) (μ : gs_M), kd a0 = 9 → q17 a0 x1 x2 x3 x4 μ = some μ2 → WJ p l e R s m args below meth c 0 0 (MQ below (gs_Q ad g tyc none μ2) args s 0 0 (gs_A ad)) ad g tyc 5 17 [.ref a0, .int x1, .int x2, .int x3, .int x4] [] μ) {a0 : Nat} {x1 : Int32} {x2 : Int32} {x3 : Int32} {x4 : Int32} {μ : gs_M} (hk0 : kd a0 = 9) (hD : Bo_X10_sail_17 q2 q17 a0 x1 x2 x3 x4 μ = some μ2) : WJ p l e R s m args below meth c 0 0 (MQ below (gs_Q ad g tyc none μ2) args s 0 0 (gs_A ad)) ad g tyc 5 17 [.ref a0, .int x1, .int x2, .int x3, .int x4] [] μ := by
  unfold Bo_X10_sail_17 at hD
  refine r_iload hK d_X10_sail_17 rfl ?_
  refine r_aload_n hK d_X10_sail_19 rfl rfl ?_
  refine r_getI hK d_X10_sail_20 fl_RX10_22_9 rfl hk0 ?_
  refine r_icmp_ge (tgt := 42) hK d_X10_sail_23 (by decide) (fun h1 => ?_) (fun h1 => ?_)
  · have hD := if_t hD h1
    refine r_iconst hK d_X10_sail_42 ci_0 ?_
    refine r_istore hK d_X10_sail_43 (by decide) (ls2 := [.ref a0, .int x1, .int x2, .int x3, .int (0 : Int32)]) rfl ?_
    exact TL_X10_sail_45 hK hq2 _ _ _ _ _ _ _ hk0 hD
  · have hD := if_f hD h1
    refine r_aload_n hK d_X10_sail_26 rfl rfl ?_
    refine r_getR hK d_X10_sail_27 fl_RX10_12_9 rfl hk0 ?_
    refine r_ref (b := (a0 + 1)) ((ly_ves _ hk0).1.1) ?_
    refine r_iload hK d_X10_sail_30 rfl ?_
    obtain ⟨h2, hD⟩ := ck_e hD
    refine r_aaldH hK d_X10_sail_32 ((ly_ves _ hk0).1.2.1) ((ly_ves _ hk0).1.2.2) (inb_in h2) ?_
    refine r_ref (b := (a0 + 2 + 2 * Int32.toNatClampNeg x4)) ((ly_vh _ hk0 _ (inb_lt h2)).1) ?_
    obtain ⟨u4, e3, hD⟩ := bd0_e hD
    refine r_callV (As := []) (st := []) (stk2 := []) hK (C_X1_settleOneDay ((ly_vh _ hk0 _ (inb_lt h2)).2) e3) d_X10_sail_33 mf_X1_settleOneDay ml_RX10_120 im_X1_settleOneDay rfl se_1_RX1_X1_settleOneDay ((ly_vh _ hk0 _ (inb_lt h2)).2) rfl (Nat.le_of_ble_eq_true rfl) (by decide) ⟨Nat.zero_le _, Nat.zero_le _⟩ rfl rfl ?_
    refine r_iinc hK d_X10_sail_36 rfl (v := x4 + (1 : Int32)) (by rw [ci_1]) (by decide) (ls2 := [.ref a0, .int x1, .int x2, .int x3, .int (x4 + (1 : Int32))]) rfl ?_
    refine r_goto (tgt := 17) hK d_X10_sail_39 (by decide) ?_
    exact hq17 _ _ _ _ _ _ hk0 hD
set_option maxRecDepth 20000 in
theorem TL_X10_sail_17  (hK : KC p R s m args meth c ad g tyc RX10 cX10_sail 5 none 5) {μ2 : gs_M} {q2 : Nat → Int32 → Int32 → Int32 → gs_M → Option (gs_M)} (hq2 : ∀ (a0 : Nat) (x1 : Int32) (x2 : Int32) (x3 : Int32) (μ : gs_M), kd a0 = 9 → q2 a0 x1 x2 x3 μ = some μ2 → WJ p l e R s m args below meth c 0 0 (MQ below (gs_Q ad g tyc none μ2) args s 0 0 (gs_A ad)) ad g tyc 5 2 [.ref a0, .int x1, .int x2, .int x3, gs_J] [] μ) : ∀ (n : Nat) (a0 : Nat) (x1 : Int32) (x2 : Int32) (x3 : Int32) (x4 : Int32) (μ : gs_M), kd a0 = 9 → L_X10_sail_17 q2 n a0 x1 x2 x3 x4 μ = some μ2 → WJ p l e R s m args below meth c 0 0 (MQ below (gs_Q ad g tyc none μ2) args s 0 0 (gs_A ad)) ad g tyc 5 17 [.ref a0, .int x1, .int x2, .int x3, .int x4] [] μ := by
  intro n
  induction n with
  | zero => intro a0 x1 x2 x3 x4 μ hk0 hD; cases hD
  | succ n ih => intro a0 x1 x2 x3 x4 μ hk0 hD; exact To_X10_sail_17 hK hq2 ih hk0 hD
set_option maxRecDepth 20000 in
theorem To_X10_sail_2  (hK : KC p R s m args meth c ad g tyc RX10 cX10_sail 5 none 5) {μ2 : gs_M} {q2 : Nat → Int32 → Int32 → Int32 → gs_M → Option (gs_M)} (hq2 : ∀ (a0 : Nat) (x1 : Int32) (x2 : Int32) (x3 : Int32) (μ : gs_M), kd a0 = 9 → q2 a0 x1 x2 x3 μ = some μ2 → WJ p l e R s m args below meth c 0 0 (MQ below (gs_Q ad g tyc none μ2) args s 0 0 (gs_A ad)) ad g tyc 5 2 [.ref a0, .int x1, .int x2, .int x3, gs_J] [] μ) {a0 : Nat} {x1 : Int32} {x2 : Int32} {x3 : Int32} {μ : gs_M} (hk0 : kd a0 = 9) (hD : Bo_X10_sail_2 q2 a0 x1 x2 x3 μ = some μ2) : WJ p l e R s m args below meth c 0 0 (MQ below (gs_Q ad g tyc none μ2) args s 0 0 (gs_A ad)) ad g tyc 5 2 [.ref a0, .int x1, .int x2, .int x3, gs_J] [] μ := by
  unfold Bo_X10_sail_2 at hD
  refine r_iload_n hK d_X10_sail_2 rfl rfl ?_
  refine r_iload_n hK d_X10_sail_3 rfl rfl ?_
  refine r_icmp_ge (tgt := 91) hK d_X10_sail_4 (by decide) (fun h1 => ?_) (fun h1 => ?_)
  · have hD := if_t hD h1
    cases hD
    exact r_vret hK d_X10_sail_91
  · have hD := if_f hD h1
    refine r_aload_n hK d_X10_sail_7 rfl rfl ?_
    refine r_getZ hK d_X10_sail_8 fl_RX10_39_9 rfl hk0 ?_
    refine r_if_ne (tgt := 91) hK d_X10_sail_11 (by decide) (fun h2 => ?_) (fun h2 => ?_)
    · have hD := if_f hD h2
      cases hD
      exact r_vret hK d_X10_sail_91
    · have hD := if_t hD h2
      refine r_iconst hK d_X10_sail_14 ci_0 ?_
      refine r_istore hK d_X10_sail_15 (by decide) (ls2 := [.ref a0, .int x1, .int x2, .int x3, .int (0 : Int32)]) rfl ?_
      exact TL_X10_sail_17 hK hq2 _ _ _ _ _ _ _ hk0 hD
set_option maxRecDepth 20000 in
theorem TL_X10_sail_2  (hK : KC p R s m args meth c ad g tyc RX10 cX10_sail 5 none 5) {μ2 : gs_M}   : ∀ (n : Nat) (a0 : Nat) (x1 : Int32) (x2 : Int32) (x3 : Int32) (μ : gs_M), kd a0 = 9 → L_X10_sail_2  n a0 x1 x2 x3 μ = some μ2 → WJ p l e R s m args below meth c 0 0 (MQ below (gs_Q ad g tyc none μ2) args s 0 0 (gs_A ad)) ad g tyc 5 2 [.ref a0, .int x1, .int x2, .int x3, gs_J] [] μ := by
  intro n
  induction n with
  | zero => intro a0 x1 x2 x3 μ hk0 hD; cases hD
  | succ n ih => intro a0 x1 x2 x3 μ hk0 hD; exact To_X10_sail_2 hK  ih hk0 hD
set_option maxRecDepth 20000 in
theorem C_X10_sail  {a0 : Nat} {x1 : Int32} {x2 : Int32} {μ : gs_M} {μ2 : gs_M} (hk0 : kd a0 = 9) (hD : D_X10_sail a0 x1 x2 μ = some μ2) : CALL yX10_sail cX10_sail 5 none 5 [.ref a0, .int x1, .int x2] μ none μ2 := by
  unfold D_X10_sail at hD
  refine gs_enter mf_X10_sail (Nat.le_of_ble_eq_true rfl) (ls := [.ref a0, .int x1, .int x2, gs_J, gs_J]) rfl (fun p l e R s m args below meth c ad g tyc hK => ?_)
  have hK : KC p R s m args meth c ad g tyc RX10 cX10_sail 5 none 5 := hK
  refine r_iconst hK d_X10_sail_0 ci_0 ?_
  refine r_istore_n hK d_X10_sail_1 rfl (by decide) (ls2 := [.ref a0, .int x1, .int x2, .int (0 : Int32), gs_J]) rfl ?_
  exact TL_X10_sail_2 hK  _ _ _ _ _ _ hk0 hD
end S_X10_sail
