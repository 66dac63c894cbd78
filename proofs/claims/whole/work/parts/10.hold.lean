theorem mf_X11_within : gs_MF yX11_within cX11_within 3 (some .boolean) 3 := ⟨gs_t 378 (by decide +kernel) (by decide +kernel), gs_t 1 (by decide +kernel) (by decide +kernel), by decide, by decide, by decide +kernel, by decide, by decide⟩
theorem mf_X11_held : gs_MF yX11_held cX11_held 2 (some .int) 2 := ⟨gs_t 693 (by decide +kernel) (by decide +kernel), gs_t 1 (by decide +kernel) (by decide +kernel), by decide, by decide, by decide +kernel, by decide, by decide⟩
theorem ml_RX11_392 : Cond.methodLink RX11 392 yX11_held ∈ gs_tbl := gs_t 691 (by decide +kernel) (by decide +kernel)
theorem ss_X11_held : Cond.static yX11_held ∈ gs_tbl := gs_t 692 (by decide +kernel) (by decide +kernel)
theorem mf_X11_heldSlope : gs_MF yX11_heldSlope cX11_heldSlope 1 (some .int) 1 := ⟨gs_t 690 (by decide +kernel) (by decide +kernel), gs_t 1 (by decide +kernel) (by decide +kernel), by decide, by decide, by decide +kernel, by decide, by decide⟩
theorem fl_RX1_15_1 : gs_FL RX1 15 "GrainShift$Hold" 1 1 (RX1, TX1, 14) := ⟨rfl, by decide, gs_t 186 (by decide +kernel) (by decide +kernel), Or.inl rfl⟩
theorem fl_RX1_19_1 : gs_FL RX1 19 "GrainShift$Hold" 1 8 (RX1, TX1, 14) := ⟨rfl, by decide, gs_t 204 (by decide +kernel) (by decide +kernel), Or.inl rfl⟩
theorem mf_X1_shape : gs_MF yX1_shape cX1_shape 3 none 2 := ⟨gs_t 606 (by decide +kernel) (by decide +kernel), gs_t 10 (by decide +kernel) (by decide +kernel), by decide, by decide, by decide +kernel, by decide, by decide⟩
theorem fl_RX1_58_1 : gs_FL RX1 58 "GrainShift$Hold" 1 6 (RX1, TX1, 14) := ⟨rfl, by decide, gs_t 198 (by decide +kernel) (by decide +kernel), Or.inl rfl⟩
theorem fl_RX1_61_1 : gs_FL RX1 61 "GrainShift$Hold" 1 7 (RX1, TX1, 14) := ⟨rfl, by decide, gs_t 201 (by decide +kernel) (by decide +kernel), Or.inl rfl⟩
theorem mf_X1_clearCounts : gs_MF yX1_clearCounts cX1_clearCounts 1 none 0 := ⟨gs_t 654 (by decide +kernel) (by decide +kernel), gs_t 10 (by decide +kernel) (by decide +kernel), by decide, by decide, by decide +kernel, by decide, by decide⟩
theorem fl_RX1_43_1 : gs_FL RX1 43 "GrainShift$Hold" 1 2 (RX1, TX1, 14) := ⟨rfl, by decide, gs_t 189 (by decide +kernel) (by decide +kernel), Or.inl rfl⟩
theorem fl_RX1_46_1 : gs_FL RX1 46 "GrainShift$Hold" 1 3 (RX1, TX1, 14) := ⟨rfl, by decide, gs_t 191 (by decide +kernel) (by decide +kernel), Or.inl rfl⟩
theorem fl_RX1_49_1 : gs_FL RX1 49 "GrainShift$Hold" 1 4 (RX1, TX1, 14) := ⟨rfl, by decide, gs_t 193 (by decide +kernel) (by decide +kernel), Or.inl rfl⟩
theorem fl_RX1_52_1 : gs_FL RX1 52 "GrainShift$Hold" 1 5 (RX1, TX1, 14) := ⟨rfl, by decide, gs_t 195 (by decide +kernel) (by decide +kernel), Or.inl rfl⟩
theorem fl_RX1_28_1 : gs_FL RX1 28 "GrainShift$Hold" 1 9 (RX1, TX1, 14) := ⟨rfl, by decide, gs_t 205 (by decide +kernel) (by decide +kernel), Or.inl rfl⟩
theorem fl_RX1_31_1 : gs_FL RX1 31 "GrainShift$Hold" 1 10 (RX1, TX1, 14) := ⟨rfl, by decide, gs_t 206 (by decide +kernel) (by decide +kernel), Or.inl rfl⟩
theorem fl_RX1_34_1 : gs_FL RX1 34 "GrainShift$Hold" 1 11 (RX1, TX1, 14) := ⟨rfl, by decide, gs_t 207 (by decide +kernel) (by decide +kernel), Or.inl rfl⟩
theorem fl_RX1_37_1 : gs_FL RX1 37 "GrainShift$Hold" 1 12 (RX1, TX1, 14) := ⟨rfl, by decide, gs_t 208 (by decide +kernel) (by decide +kernel), Or.inl rfl⟩
theorem fl_RX1_40_1 : gs_FL RX1 40 "GrainShift$Hold" 1 13 (RX1, TX1, 14) := ⟨rfl, by decide, gs_t 209 (by decide +kernel) (by decide +kernel), Or.inl rfl⟩
theorem se_1_RX1_X1_clearCounts : Cond.selects RX1 yX1_clearCounts yX1_clearCounts ∈ gs_tbl := gs_t 653 (by decide +kernel) (by decide +kernel)
theorem ml_RX1_55 : Cond.methodLink RX1 55 yX1_clearCounts ∈ gs_tbl := gs_t 651 (by decide +kernel) (by decide +kernel)
theorem im_X1_clearCounts : Cond.instanceMethod yX1_clearCounts ∈ gs_tbl := gs_t 652 (by decide +kernel) (by decide +kernel)
theorem fl_RX1_9_1 : gs_FL RX1 9 "GrainShift$Hold" 1 0 (RX1, TX1, 14) := ⟨rfl, by decide, gs_t 184 (by decide +kernel) (by decide +kernel), Or.inl rfl⟩
theorem mf_X1_become : gs_MF yX1_become cX1_become 3 none 1 := ⟨gs_t 789 (by decide +kernel) (by decide +kernel), gs_t 10 (by decide +kernel) (by decide +kernel), by decide, by decide, by decide +kernel, by decide, by decide⟩
theorem mf_X1_layEvenly : gs_MF yX1_layEvenly cX1_layEvenly 3 none 1 := ⟨gs_t 619 (by decide +kernel) (by decide +kernel), gs_t 10 (by decide +kernel) (by decide +kernel), by decide, by decide, by decide +kernel, by decide, by decide⟩
theorem mf_X1_nearestNotFull : gs_MF yX1_nearestNotFull cX1_nearestNotFull 5 (some .int) 1 := ⟨gs_t 627 (by decide +kernel) (by decide +kernel), gs_t 10 (by decide +kernel) (by decide +kernel), by decide, by decide, by decide +kernel, by decide, by decide⟩
theorem mf_X1_isSoup : gs_MF yX1_isSoup cX1_isSoup 2 (some .boolean) 1 := ⟨gs_t 639 (by decide +kernel) (by decide +kernel), gs_t 10 (by decide +kernel) (by decide +kernel), by decide, by decide, by decide +kernel, by decide, by decide⟩
theorem se_1_RX1_X1_isSoup : Cond.selects RX1 yX1_isSoup yX1_isSoup ∈ gs_tbl := gs_t 638 (by decide +kernel) (by decide +kernel)
theorem ml_RX1_91 : Cond.methodLink RX1 91 yX1_isSoup ∈ gs_tbl := gs_t 636 (by decide +kernel) (by decide +kernel)
theorem im_X1_isSoup : Cond.instanceMethod yX1_isSoup ∈ gs_tbl := gs_t 637 (by decide +kernel) (by decide +kernel)
theorem mf_X1_holdsFast : gs_MF yX1_holdsFast cX1_holdsFast 1 (some .int) 0 := ⟨gs_t 635 (by decide +kernel) (by decide +kernel), gs_t 10 (by decide +kernel) (by decide +kernel), by decide, by decide, by decide +kernel, by decide, by decide⟩
theorem mm_RX1_105 : Cond.methodLink RX1 105 Lib.Math.min.name ∈ gs_tbl := gs_t 648 (by decide +kernel) (by decide +kernel)
theorem ms_min : Cond.static Lib.Math.min.name ∈ gs_tbl := gs_t 649 (by decide +kernel) (by decide +kernel)
theorem mi_0 : Cond.initialized "java/lang/Math" ∈ gs_tbl := gs_t 18 (by decide +kernel) (by decide +kernel)
theorem mc_min : Cond.code Lib.Math.min.name Lib.Math.min.code 2 (some .int) ∈ gs_tbl := gs_t 650 (by decide +kernel) (by decide +kernel)
theorem mf_X1_sweep : gs_MF yX1_sweep cX1_sweep 12 (some .boolean) 3 := ⟨gs_t 647 (by decide +kernel) (by decide +kernel), gs_t 10 (by decide +kernel) (by decide +kernel), by decide, by decide, by decide +kernel, by decide, by decide⟩
theorem mf_X1_unitsMost : gs_MF yX1_unitsMost cX1_unitsMost 2 (some .int) 0 := ⟨gs_t 643 (by decide +kernel) (by decide +kernel), gs_t 10 (by decide +kernel) (by decide +kernel), by decide, by decide, by decide +kernel, by decide, by decide⟩
theorem se_1_RX1_X1_holdsFast : Cond.selects RX1 yX1_holdsFast yX1_holdsFast ∈ gs_tbl := gs_t 634 (by decide +kernel) (by decide +kernel)
theorem ml_RX1_95 : Cond.methodLink RX1 95 yX1_holdsFast ∈ gs_tbl := gs_t 632 (by decide +kernel) (by decide +kernel)
theorem im_X1_holdsFast : Cond.instanceMethod yX1_holdsFast ∈ gs_tbl := gs_t 633 (by decide +kernel) (by decide +kernel)
theorem se_1_RX1_X1_unitsMost : Cond.selects RX1 yX1_unitsMost yX1_unitsMost ∈ gs_tbl := gs_t 642 (by decide +kernel) (by decide +kernel)
theorem ml_RX1_99 : Cond.methodLink RX1 99 yX1_unitsMost ∈ gs_tbl := gs_t 640 (by decide +kernel) (by decide +kernel)
theorem im_X1_unitsMost : Cond.instanceMethod yX1_unitsMost ∈ gs_tbl := gs_t 641 (by decide +kernel) (by decide +kernel)
theorem se_1_RX1_X1_sweep : Cond.selects RX1 yX1_sweep yX1_sweep ∈ gs_tbl := gs_s 19 (by decide +kernel) (by decide +kernel)
theorem ml_RX1_102 : Cond.methodLink RX1 102 yX1_sweep ∈ gs_tbl := gs_t 644 (by decide +kernel) (by decide +kernel)
theorem im_X1_sweep : Cond.instanceMethod yX1_sweep ∈ gs_tbl := gs_t 646 (by decide +kernel) (by decide +kernel)
theorem mf_X1_restWith : gs_MF yX1_restWith cX1_restWith 6 none 1 := ⟨gs_t 631 (by decide +kernel) (by decide +kernel), gs_t 10 (by decide +kernel) (by decide +kernel), by decide, by decide, by decide +kernel, by decide, by decide⟩
theorem se_1_RX1_X1_nearestNotFull : Cond.selects RX1 yX1_nearestNotFull yX1_nearestNotFull ∈ gs_tbl := gs_s 18 (by decide +kernel) (by decide +kernel)
theorem ml_RX1_71 : Cond.methodLink RX1 71 yX1_nearestNotFull ∈ gs_tbl := gs_t 624 (by decide +kernel) (by decide +kernel)
theorem im_X1_nearestNotFull : Cond.instanceMethod yX1_nearestNotFull ∈ gs_tbl := gs_t 626 (by decide +kernel) (by decide +kernel)
theorem se_1_RX1_X1_restWith : Cond.selects RX1 yX1_restWith yX1_restWith ∈ gs_tbl := gs_t 630 (by decide +kernel) (by decide +kernel)
theorem ml_RX1_75 : Cond.methodLink RX1 75 yX1_restWith ∈ gs_tbl := gs_t 628 (by decide +kernel) (by decide +kernel)
theorem im_X1_restWith : Cond.instanceMethod yX1_restWith ∈ gs_tbl := gs_t 629 (by decide +kernel) (by decide +kernel)
theorem mf_X1_pourOntoMiddle : gs_MF yX1_pourOntoMiddle cX1_pourOntoMiddle 4 none 1 := ⟨gs_t 623 (by decide +kernel) (by decide +kernel), gs_t 10 (by decide +kernel) (by decide +kernel), by decide, by decide, by decide +kernel, by decide, by decide⟩
theorem se_1_RX1_X1_pourOntoMiddle : Cond.selects RX1 yX1_pourOntoMiddle yX1_pourOntoMiddle ∈ gs_tbl := gs_s 17 (by decide +kernel) (by decide +kernel)
theorem ml_RX1_68 : Cond.methodLink RX1 68 yX1_pourOntoMiddle ∈ gs_tbl := gs_t 620 (by decide +kernel) (by decide +kernel)
theorem im_X1_pourOntoMiddle : Cond.instanceMethod yX1_pourOntoMiddle ∈ gs_tbl := gs_t 622 (by decide +kernel) (by decide +kernel)
theorem se_1_RX1_X1_layEvenly : Cond.selects RX1 yX1_layEvenly yX1_layEvenly ∈ gs_tbl := gs_s 16 (by decide +kernel) (by decide +kernel)
theorem ml_RX1_64 : Cond.methodLink RX1 64 yX1_layEvenly ∈ gs_tbl := gs_t 616 (by decide +kernel) (by decide +kernel)
theorem im_X1_layEvenly : Cond.instanceMethod yX1_layEvenly ∈ gs_tbl := gs_t 618 (by decide +kernel) (by decide +kernel)
theorem mf_X1_fill : gs_MF yX1_fill cX1_fill 4 none 2 := ⟨gs_t 615 (by decide +kernel) (by decide +kernel), gs_t 10 (by decide +kernel) (by decide +kernel), by decide, by decide, by decide +kernel, by decide, by decide⟩
theorem mn_RX1_78 : Cond.methodLinkNest RX1 78 yX11_within "GrainShift" ∈ gs_nest := gs_n 746 (by decide +kernel) (by decide +kernel)
theorem ss_X11_within : Cond.static yX11_within ∈ gs_tbl := gs_t 377 (by decide +kernel) (by decide +kernel)
theorem mf_X1_tall : gs_MF yX1_tall cX1_tall 2 (some .int) 1 := ⟨gs_t 745 (by decide +kernel) (by decide +kernel), gs_t 10 (by decide +kernel) (by decide +kernel), by decide, by decide, by decide +kernel, by decide, by decide⟩
theorem se_1_RX1_X1_tall : Cond.selects RX1 yX1_tall yX1_tall ∈ gs_tbl := gs_t 744 (by decide +kernel) (by decide +kernel)
theorem ml_RX1_82 : Cond.methodLink RX1 82 yX1_tall ∈ gs_tbl := gs_t 764 (by decide +kernel) (by decide +kernel)
theorem im_X1_tall : Cond.instanceMethod yX1_tall ∈ gs_tbl := gs_t 743 (by decide +kernel) (by decide +kernel)
theorem mm_RX1_85 : Cond.methodLink RX1 85 Lib.Math.max.name ∈ gs_tbl := gs_t 765 (by decide +kernel) (by decide +kernel)
theorem ms_max : Cond.static Lib.Math.max.name ∈ gs_tbl := gs_t 766 (by decide +kernel) (by decide +kernel)
theorem mc_max : Cond.code Lib.Math.max.name Lib.Math.max.code 2 (some .int) ∈ gs_tbl := gs_t 767 (by decide +kernel) (by decide +kernel)
theorem mf_X1_gap : gs_MF yX1_gap cX1_gap 3 (some .int) 0 := ⟨gs_t 763 (by decide +kernel) (by decide +kernel), gs_t 10 (by decide +kernel) (by decide +kernel), by decide, by decide, by decide +kernel, by decide, by decide⟩
theorem mf_X1_allUnits : gs_MF yX1_allUnits cX1_allUnits 3 (some .int) 0 := ⟨gs_t 756 (by decide +kernel) (by decide +kernel), gs_t 10 (by decide +kernel) (by decide +kernel), by decide, by decide, by decide +kernel, by decide, by decide⟩
theorem mf_X1_moment : gs_MF yX1_moment cX1_moment 3 (some .int) 0 := ⟨gs_t 683 (by decide +kernel) (by decide +kernel), gs_t 10 (by decide +kernel) (by decide +kernel), by decide, by decide, by decide +kernel, by decide, by decide⟩
theorem mf_X1_settleOneDay : gs_MF yX1_settleOneDay cX1_settleOneDay 1 none 0 := ⟨gs_t 721 (by decide +kernel) (by decide +kernel), gs_t 10 (by decide +kernel) (by decide +kernel), by decide, by decide, by decide +kernel, by decide, by decide⟩
theorem mf_X1_evenOut : gs_MF yX1_evenOut cX1_evenOut 4 (some .boolean) 0 := ⟨gs_t 913 (by decide +kernel) (by decide +kernel), gs_t 10 (by decide +kernel) (by decide +kernel), by decide, by decide, by decide +kernel, by decide, by decide⟩
theorem d_X11_within_0 : gd cX11_within 0 (.iload_n 0) 1 1 := ⟨by decide +kernel, rfl⟩
theorem d_X11_within_1 : gd cX11_within 1 (.iload_n 1) 1 2 := ⟨by decide +kernel, rfl⟩
theorem d_X11_within_2 : gd cX11_within 2 (.if_icmp .lt 12) 3 5 := ⟨by decide +kernel, rfl⟩
theorem d_X11_within_5 : gd cX11_within 5 (.iload_n 0) 1 6 := ⟨by decide +kernel, rfl⟩
theorem d_X11_within_6 : gd cX11_within 6 (.iload_n 2) 1 7 := ⟨by decide +kernel, rfl⟩
theorem d_X11_within_7 : gd cX11_within 7 (.if_icmp .gt 7) 3 10 := ⟨by decide +kernel, rfl⟩
theorem d_X11_within_10 : gd cX11_within 10 (.iconst 1) 1 11 := ⟨by decide +kernel, rfl⟩
theorem d_X11_within_11 : gd cX11_within 11 (.goto 4) 3 14 := ⟨by decide +kernel, rfl⟩
theorem d_X11_within_14 : gd cX11_within 14 (.iconst 0) 1 15 := ⟨by decide +kernel, rfl⟩
theorem d_X11_within_15 : gd cX11_within 15 .ireturn 1 16 := ⟨by decide +kernel, rfl⟩
def B_X11_within_14   (μ : gs_M) : Option (Int32 × gs_M) :=
  some ((0 : Int32), μ)
def D_X11_within (x0 : Int32) (x1 : Int32) (x2 : Int32) (μ : gs_M) : Option (Int32 × gs_M) :=
  if x0 < x1 then (B_X11_within_14 μ) else (if x2 < x0 then (B_X11_within_14 μ) else (some ((1 : Int32), μ)))
section S_X11_within
variable {p : Program} {l : Launch} {e : Env} {R : Room} {s : State} {m : MethodId} {args : Array Value} {below : List Frame} {meth : Method} {c : Code} {ad : Nat → Nat} {g : va_G} {tyc : Nat → ClassId}
set_option maxRecDepth 20000 in
theorem T_X11_within_14  (hK : KC p R s m args meth c ad g tyc RX11 cX11_within 3 (some .boolean) 0) {r : Int32} {μ2 : gs_M}    {μ : gs_M}  (hD : B_X11_within_14   μ = some (r, μ2)) : WJ p l e R s m args below meth c 0 0 (MQ below (gs_Q ad g tyc (some (.int r)) μ2) args s 0 0 (gs_A ad)) ad g tyc 3 14 [gs_J, gs_J, gs_J] [] μ := by
  unfold B_X11_within_14 at hD
  refine r_iconst hK d_X11_within_14 ci_0 ?_
  cases hD
  exact r_zret hK (Or.inl rfl) d_X11_within_15
set_option maxRecDepth 20000 in
theorem C_X11_within  {x0 : Int32} {x1 : Int32} {x2 : Int32} {μ : gs_M} {r : Int32} {μ2 : gs_M}  (hD : D_X11_within x0 x1 x2 μ = some (r, μ2)) : CALL yX11_within cX11_within 3 (some .boolean) 0 [.int x0, .int x1, .int x2] μ (some (.int r)) μ2 := by
  unfold D_X11_within at hD
  refine gs_enter mf_X11_within (Nat.le_of_ble_eq_true rfl) (ls := [.int x0, .int x1, .int x2]) rfl (fun p l e R s m args below meth c ad g tyc hK => ?_)
  have hK : KC p R s m args meth c ad g tyc RX11 cX11_within 3 (some .boolean) 0 := hK
  refine r_iload_n hK d_X11_within_0 rfl rfl ?_
  refine r_iload_n hK d_X11_within_1 rfl rfl ?_
  refine r_icmp_lt (tgt := 14) hK d_X11_within_2 (by decide) (fun h1 => ?_) (fun h1 => ?_)
  · have hD := if_t hD h1
    refine r_junk [false, false, false] (ls2 := [gs_J, gs_J, gs_J]) rfl ?_
    exact T_X11_within_14 hK   hD
  · have hD := if_f hD h1
    refine r_iload_n hK d_X11_within_5 rfl rfl ?_
    refine r_iload_n hK d_X11_within_6 rfl rfl ?_
    refine r_icmp_gt (tgt := 14) hK d_X11_within_7 (by decide) (fun h2 => ?_) (fun h2 => ?_)
    · have hD := if_t hD h2
      refine r_junk [false, false, false] (ls2 := [gs_J, gs_J, gs_J]) rfl ?_
      exact T_X11_within_14 hK   hD
    · have hD := if_f hD h2
      refine r_iconst hK d_X11_within_10 ci_1 ?_
      refine r_goto (tgt := 15) hK d_X11_within_11 (by decide) ?_
      cases hD
      exact r_zret hK (Or.inr rfl) d_X11_within_15
end S_X11_within
theorem d_X11_held_0 : gd cX11_held 0 (.iload_n 0) 1 1 := ⟨by decide +kernel, rfl⟩
theorem d_X11_held_1 : gd cX11_held 1 (.iload_n 1) 1 2 := ⟨by decide +kernel, rfl⟩
theorem d_X11_held_2 : gd cX11_held 2 (.if_icmp .le 7) 3 5 := ⟨by decide +kernel, rfl⟩
theorem d_X11_held_5 : gd cX11_held 5 (.iload_n 1) 1 6 := ⟨by decide +kernel, rfl⟩
theorem d_X11_held_6 : gd cX11_held 6 (.goto 15) 3 9 := ⟨by decide +kernel, rfl⟩
theorem d_X11_held_9 : gd cX11_held 9 (.iload_n 0) 1 10 := ⟨by decide +kernel, rfl⟩
theorem d_X11_held_10 : gd cX11_held 10 (.iload_n 1) 1 11 := ⟨by decide +kernel, rfl⟩
theorem d_X11_held_11 : gd cX11_held 11 .ineg 1 12 := ⟨by decide +kernel, rfl⟩
theorem d_X11_held_12 : gd cX11_held 12 (.if_icmp .ge 8) 3 15 := ⟨by decide +kernel, rfl⟩
theorem d_X11_held_15 : gd cX11_held 15 (.iload_n 1) 1 16 := ⟨by decide +kernel, rfl⟩
theorem d_X11_held_16 : gd cX11_held 16 .ineg 1 17 := ⟨by decide +kernel, rfl⟩
theorem d_X11_held_17 : gd cX11_held 17 (.goto 4) 3 20 := ⟨by decide +kernel, rfl⟩
theorem d_X11_held_20 : gd cX11_held 20 (.iload_n 0) 1 21 := ⟨by decide +kernel, rfl⟩
theorem d_X11_held_21 : gd cX11_held 21 .ireturn 1 22 := ⟨by decide +kernel, rfl⟩
def D_X11_held (x0 : Int32) (x1 : Int32) (μ : gs_M) : Option (Int32 × gs_M) :=
  if x0 ≤ x1 then (if (-x1) ≤ x0 then (some (x0, μ)) else (some (-x1, μ))) else (some (x1, μ))
section S_X11_held
variable {p : Program} {l : Launch} {e : Env} {R : Room} {s : State} {m : MethodId} {args : Array Value} {below : List Frame} {meth : Method} {c : Code} {ad : Nat → Nat} {g : va_G} {tyc : Nat → ClassId}
set_option maxRecDepth 20000 in
theorem C_X11_held  {x0 : Int32} {x1 : Int32} {μ : gs_M} {r : Int32} {μ2 : gs_M}  (hD : D_X11_held x0 x1 μ = some (r, μ2)) : CALL yX11_held cX11_held 2 (some .int) 0 [.int x0, .int x1] μ (some (.int r)) μ2 := by
  unfold D_X11_held at hD
  refine gs_enter mf_X11_held (Nat.le_of_ble_eq_true rfl) (ls := [.int x0, .int x1]) rfl (fun p l e R s m args below meth c ad g tyc hK => ?_)
  have hK : KC p R s m args meth c ad g tyc RX11 cX11_held 2 (some .int) 0 := hK
  refine r_iload_n hK d_X11_held_0 rfl rfl ?_
  refine r_iload_n hK d_X11_held_1 rfl rfl ?_
  refine r_icmp_le (tgt := 9) hK d_X11_held_2 (by decide) (fun h1 => ?_) (fun h1 => ?_)
  · have hD := if_t hD h1
    refine r_iload_n hK d_X11_held_9 rfl rfl ?_
    refine r_iload_n hK d_X11_held_10 rfl rfl ?_
    refine r_ineg hK d_X11_held_11 ?_
    refine r_icmp_ge (tgt := 20) hK d_X11_held_12 (by decide) (fun h2 => ?_) (fun h2 => ?_)
    · have hD := if_t hD h2
      refine r_iload_n hK d_X11_held_20 rfl rfl ?_
      cases hD
      exact r_iret hK d_X11_held_21
    · have hD := if_f hD h2
      refine r_iload_n hK d_X11_held_15 rfl rfl ?_
      refine r_ineg hK d_X11_held_16 ?_
      refine r_goto (tgt := 21) hK d_X11_held_17 (by decide) ?_
      cases hD
      exact r_iret hK d_X11_held_21
  · have hD := if_f hD h1
    refine r_iload_n hK d_X11_held_5 rfl rfl ?_
    refine r_goto (tgt := 21) hK d_X11_held_6 (by decide) ?_
    cases hD
    exact r_iret hK d_X11_held_21
end S_X11_held
theorem d_X11_heldSlope_0 : gd cX11_heldSlope 0 (.iload_n 0) 1 1 := ⟨by decide +kernel, rfl⟩
theorem d_X11_heldSlope_1 : gd cX11_heldSlope 1 (.bipush 60) 2 3 := ⟨by decide +kernel, rfl⟩
theorem d_X11_heldSlope_3 : gd cX11_heldSlope 3 (.invokestatic 392) 3 6 := ⟨by decide +kernel, rfl⟩
theorem d_X11_heldSlope_6 : gd cX11_heldSlope 6 .ireturn 1 7 := ⟨by decide +kernel, rfl⟩
def D_X11_heldSlope (x0 : Int32) (μ : gs_M) : Option (Int32 × gs_M) :=
  bd (D_X11_held x0 (60 : Int32) μ) (fun v3 u2 => some (v3, u2))
section S_X11_heldSlope
variable {p : Program} {l : Launch} {e : Env} {R : Room} {s : State} {m : MethodId} {args : Array Value} {below : List Frame} {meth : Method} {c : Code} {ad : Nat → Nat} {g : va_G} {tyc : Nat → ClassId}
set_option maxRecDepth 20000 in
theorem C_X11_heldSlope  {x0 : Int32} {μ : gs_M} {r : Int32} {μ2 : gs_M}  (hD : D_X11_heldSlope x0 μ = some (r, μ2)) : CALL yX11_heldSlope cX11_heldSlope 1 (some .int) 1 [.int x0] μ (some (.int r)) μ2 := by
  unfold D_X11_heldSlope at hD
  refine gs_enter mf_X11_heldSlope (Nat.le_of_ble_eq_true rfl) (ls := [.int x0]) rfl (fun p l e R s m args below meth c ad g tyc hK => ?_)
  have hK : KC p R s m args meth c ad g tyc RX11 cX11_heldSlope 1 (some .int) 1 := hK
  refine r_iload_n hK d_X11_heldSlope_0 rfl rfl ?_
  refine r_bipush hK d_X11_heldSlope_1 cb_60 ?_
  obtain ⟨v3, u2, e1, hD⟩ := bd_e hD
  refine r_callS (As := [.int x0, .int (60 : Int32)]) (st := []) (stk2 := [.int v3]) hK (C_X11_held  e1) d_X11_heldSlope_3 mf_X11_held ml_RX11_392 ss_X11_held rfl (Nat.le_of_ble_eq_true rfl) (by decide) ⟨Nat.zero_le _, Nat.zero_le _⟩ rfl rfl ?_
  cases hD
  exact r_iret hK d_X11_heldSlope_6
end S_X11_heldSlope
theorem d_X1_shape_0 : gd cX1_shape 0 (.aload_n 0) 1 1 := ⟨by decide +kernel, rfl⟩
theorem d_X1_shape_1 : gd cX1_shape 1 (.iload_n 1) 1 2 := ⟨by decide +kernel, rfl⟩
theorem d_X1_shape_2 : gd cX1_shape 2 (.bipush 12) 2 4 := ⟨by decide +kernel, rfl⟩
theorem d_X1_shape_4 : gd cX1_shape 4 (.if_icmp .ge 7) 3 7 := ⟨by decide +kernel, rfl⟩
theorem d_X1_shape_7 : gd cX1_shape 7 (.iload_n 1) 1 8 := ⟨by decide +kernel, rfl⟩
theorem d_X1_shape_8 : gd cX1_shape 8 (.goto 5) 3 11 := ⟨by decide +kernel, rfl⟩
theorem d_X1_shape_11 : gd cX1_shape 11 (.bipush 12) 2 13 := ⟨by decide +kernel, rfl⟩
theorem d_X1_shape_13 : gd cX1_shape 13 (.putfield 15) 3 16 := ⟨by decide +kernel, rfl⟩
theorem d_X1_shape_16 : gd cX1_shape 16 (.aload_n 0) 1 17 := ⟨by decide +kernel, rfl⟩
theorem d_X1_shape_17 : gd cX1_shape 17 (.iload_n 2) 1 18 := ⟨by decide +kernel, rfl⟩
theorem d_X1_shape_18 : gd cX1_shape 18 (.putfield 19) 3 21 := ⟨by decide +kernel, rfl⟩
theorem d_X1_shape_21 : gd cX1_shape 21 .return_ 1 22 := ⟨by decide +kernel, rfl⟩
def B_X1_shape_13  (a0 : Nat) (x2 : Int32) (as0 : Nat) (xs1 : Int32) (μ : gs_M) : Option (gs_M) :=
  lt1 (sI μ as0 1 xs1) (fun u1 => lt1 (sI u1 a0 8 x2) (fun u2 => some u2))
def D_X1_shape (a0 : Nat) (x1 : Int32) (x2 : Int32) (μ : gs_M) : Option (gs_M) :=
  if (12 : Int32) ≤ x1 then (B_X1_shape_13 a0 x2 a0 (12 : Int32) μ) else (B_X1_shape_13 a0 x2 a0 x1 μ)
section S_X1_shape
variable {p : Program} {l : Launch} {e : Env} {R : Room} {s : State} {m : MethodId} {args : Array Value} {below : List Frame} {meth : Method} {c : Code} {ad : Nat → Nat} {g : va_G} {tyc : Nat → ClassId}
set_option maxRecDepth 20000 in
theorem T_X1_shape_13  (hK : KC p R s m args meth c ad g tyc RX1 cX1_shape 3 none 0) {μ2 : gs_M}   {a0 : Nat} {x2 : Int32} {as0 : Nat} {xs1 : Int32} {μ : gs_M} (hk0 : kd a0 = 1) (hks0 : kd as0 = 1) (hD : B_X1_shape_13  a0 x2 as0 xs1 μ = some μ2) : WJ p l e R s m args below meth c 0 0 (MQ below (gs_Q ad g tyc none μ2) args s 0 0 (gs_A ad)) ad g tyc 3 13 [.ref a0, gs_J, .int x2] [.int xs1, .ref as0] μ := by
  unfold B_X1_shape_13 at hD
  refine r_putI hK d_X1_shape_13 fl_RX1_15_1 rfl rfl hks0 ?_
  refine r_ltm hD (fun u1 hD => ?_)
  refine r_aload_n hK d_X1_shape_16 rfl rfl ?_
  refine r_iload_n hK d_X1_shape_17 rfl rfl ?_
  refine r_putI hK d_X1_shape_18 fl_RX1_19_1 rfl rfl hk0 ?_
  refine r_ltm hD (fun u2 hD => ?_)
  cases hD
  exact r_vret hK d_X1_shape_21
set_option maxRecDepth 20000 in
theorem C_X1_shape  {a0 : Nat} {x1 : Int32} {x2 : Int32} {μ : gs_M} {μ2 : gs_M} (hk0 : kd a0 = 1) (hD : D_X1_shape a0 x1 x2 μ = some μ2) : CALL yX1_shape cX1_shape 3 none 0 [.ref a0, .int x1, .int x2] μ none μ2 := by
  unfold D_X1_shape at hD
  refine gs_enter mf_X1_shape (Nat.le_of_ble_eq_true rfl) (ls := [.ref a0, .int x1, .int x2]) rfl (fun p l e R s m args below meth c ad g tyc hK => ?_)
  have hK : KC p R s m args meth c ad g tyc RX1 cX1_shape 3 none 0 := hK
  refine r_aload_n hK d_X1_shape_0 rfl rfl ?_
  refine r_iload_n hK d_X1_shape_1 rfl rfl ?_
  refine r_bipush hK d_X1_shape_2 cb_12 ?_
  refine r_icmp_ge (tgt := 11) hK d_X1_shape_4 (by decide) (fun h1 => ?_) (fun h1 => ?_)
  · have hD := if_t hD h1
    refine r_bipush hK d_X1_shape_11 cb_12 ?_
    refine r_junk [true, false, true] (ls2 := [.ref a0, gs_J, .int x2]) rfl ?_
    exact T_X1_shape_13 hK  hk0 hk0 hD
  · have hD := if_f hD h1
    refine r_iload_n hK d_X1_shape_7 rfl rfl ?_
    refine r_goto (tgt := 13) hK d_X1_shape_8 (by decide) ?_
    refine r_junk [true, false, true] (ls2 := [.ref a0, gs_J, .int x2]) rfl ?_
    exact T_X1_shape_13 hK  hk0 hk0 hD
end S_X1_shape
theorem d_X1_clearCounts_0 : gd cX1_clearCounts 0 (.aload_n 0) 1 1 := ⟨by decide +kernel, rfl⟩
theorem d_X1_clearCounts_1 : gd cX1_clearCounts 1 (.iconst 0) 1 2 := ⟨by decide +kernel, rfl⟩
theorem d_X1_clearCounts_2 : gd cX1_clearCounts 2 (.putfield 58) 3 5 := ⟨by decide +kernel, rfl⟩
theorem d_X1_clearCounts_5 : gd cX1_clearCounts 5 (.aload_n 0) 1 6 := ⟨by decide +kernel, rfl⟩
theorem d_X1_clearCounts_6 : gd cX1_clearCounts 6 (.iconst 0) 1 7 := ⟨by decide +kernel, rfl⟩
theorem d_X1_clearCounts_7 : gd cX1_clearCounts 7 (.putfield 61) 3 10 := ⟨by decide +kernel, rfl⟩
theorem d_X1_clearCounts_10 : gd cX1_clearCounts 10 .return_ 1 11 := ⟨by decide +kernel, rfl⟩
def D_X1_clearCounts (a0 : Nat) (μ : gs_M) : Option (gs_M) :=
  lt1 (sI μ a0 6 (0 : Int32)) (fun u1 => lt1 (sI u1 a0 7 (0 : Int32)) (fun u2 => some u2))
section S_X1_clearCounts
variable {p : Program} {l : Launch} {e : Env} {R : Room} {s : State} {m : MethodId} {args : Array Value} {below : List Frame} {meth : Method} {c : Code} {ad : Nat → Nat} {g : va_G} {tyc : Nat → ClassId}
set_option maxRecDepth 20000 in
theorem C_X1_clearCounts  {a0 : Nat} {μ : gs_M} {μ2 : gs_M} (hk0 : kd a0 = 1) (hD : D_X1_clearCounts a0 μ = some μ2) : CALL yX1_clearCounts cX1_clearCounts 1 none 0 [.ref a0] μ none μ2 := by
  unfold D_X1_clearCounts at hD
  refine gs_enter mf_X1_clearCounts (Nat.le_of_ble_eq_true rfl) (ls := [.ref a0]) rfl (fun p l e R s m args below meth c ad g tyc hK => ?_)
  have hK : KC p R s m args meth c ad g tyc RX1 cX1_clearCounts 1 none 0 := hK
  refine r_aload_n hK d_X1_clearCounts_0 rfl rfl ?_
  refine r_iconst hK d_X1_clearCounts_1 ci_0 ?_
  refine r_putI hK d_X1_clearCounts_2 fl_RX1_58_1 rfl rfl hk0 ?_
  refine r_ltm hD (fun u1 hD => ?_)
  refine r_aload_n hK d_X1_clearCounts_5 rfl rfl ?_
  refine r_iconst hK d_X1_clearCounts_6 ci_0 ?_
  refine r_putI hK d_X1_clearCounts_7 fl_RX1_61_1 rfl rfl hk0 ?_
  refine r_ltm hD (fun u2 hD => ?_)
  cases hD
  exact r_vret hK d_X1_clearCounts_10
end S_X1_clearCounts
theorem d_X1_become_0 : gd cX1_become 0 (.iconst 0) 1 1 := ⟨by decide +kernel, rfl⟩
theorem d_X1_become_1 : gd cX1_become 1 (.istore_n 2) 1 2 := ⟨by decide +kernel, rfl⟩
theorem d_X1_become_2 : gd cX1_become 2 (.iload_n 2) 1 3 := ⟨by decide +kernel, rfl⟩
theorem d_X1_become_3 : gd cX1_become 3 (.bipush 12) 2 5 := ⟨by decide +kernel, rfl⟩
theorem d_X1_become_5 : gd cX1_become 5 (.if_icmp .ge 21) 3 8 := ⟨by decide +kernel, rfl⟩
theorem d_X1_become_8 : gd cX1_become 8 (.aload_n 0) 1 9 := ⟨by decide +kernel, rfl⟩
theorem d_X1_become_9 : gd cX1_become 9 (.getfield 9) 3 12 := ⟨by decide +kernel, rfl⟩
theorem d_X1_become_12 : gd cX1_become 12 (.iload_n 2) 1 13 := ⟨by decide +kernel, rfl⟩
theorem d_X1_become_13 : gd cX1_become 13 (.aload_n 1) 1 14 := ⟨by decide +kernel, rfl⟩
theorem d_X1_become_14 : gd cX1_become 14 (.getfield 9) 3 17 := ⟨by decide +kernel, rfl⟩
theorem d_X1_become_17 : gd cX1_become 17 (.iload_n 2) 1 18 := ⟨by decide +kernel, rfl⟩
theorem d_X1_become_18 : gd cX1_become 18 .iaload 1 19 := ⟨by decide +kernel, rfl⟩
theorem d_X1_become_19 : gd cX1_become 19 .iastore 1 20 := ⟨by decide +kernel, rfl⟩
theorem d_X1_become_20 : gd cX1_become 20 (.iinc 2 1) 3 23 := ⟨by decide +kernel, rfl⟩
theorem d_X1_become_23 : gd cX1_become 23 (.goto (-21)) 3 26 := ⟨by decide +kernel, rfl⟩
theorem d_X1_become_26 : gd cX1_become 26 (.aload_n 0) 1 27 := ⟨by decide +kernel, rfl⟩
theorem d_X1_become_27 : gd cX1_become 27 (.aload_n 1) 1 28 := ⟨by decide +kernel, rfl⟩
theorem d_X1_become_28 : gd cX1_become 28 (.getfield 15) 3 31 := ⟨by decide +kernel, rfl⟩
theorem d_X1_become_31 : gd cX1_become 31 (.putfield 15) 3 34 := ⟨by decide +kernel, rfl⟩
theorem d_X1_become_34 : gd cX1_become 34 (.aload_n 0) 1 35 := ⟨by decide +kernel, rfl⟩
theorem d_X1_become_35 : gd cX1_become 35 (.aload_n 1) 1 36 := ⟨by decide +kernel, rfl⟩
theorem d_X1_become_36 : gd cX1_become 36 (.getfield 19) 3 39 := ⟨by decide +kernel, rfl⟩
theorem d_X1_become_39 : gd cX1_become 39 (.putfield 19) 3 42 := ⟨by decide +kernel, rfl⟩
theorem d_X1_become_42 : gd cX1_become 42 (.aload_n 0) 1 43 := ⟨by decide +kernel, rfl⟩
theorem d_X1_become_43 : gd cX1_become 43 (.aload_n 1) 1 44 := ⟨by decide +kernel, rfl⟩
theorem d_X1_become_44 : gd cX1_become 44 (.getfield 43) 3 47 := ⟨by decide +kernel, rfl⟩
theorem d_X1_become_47 : gd cX1_become 47 (.putfield 43) 3 50 := ⟨by decide +kernel, rfl⟩
theorem d_X1_become_50 : gd cX1_become 50 (.aload_n 0) 1 51 := ⟨by decide +kernel, rfl⟩
theorem d_X1_become_51 : gd cX1_become 51 (.aload_n 1) 1 52 := ⟨by decide +kernel, rfl⟩
theorem d_X1_become_52 : gd cX1_become 52 (.getfield 46) 3 55 := ⟨by decide +kernel, rfl⟩
theorem d_X1_become_55 : gd cX1_become 55 (.putfield 46) 3 58 := ⟨by decide +kernel, rfl⟩
theorem d_X1_become_58 : gd cX1_become 58 (.aload_n 0) 1 59 := ⟨by decide +kernel, rfl⟩
theorem d_X1_become_59 : gd cX1_become 59 (.aload_n 1) 1 60 := ⟨by decide +kernel, rfl⟩
theorem d_X1_become_60 : gd cX1_become 60 (.getfield 49) 3 63 := ⟨by decide +kernel, rfl⟩
theorem d_X1_become_63 : gd cX1_become 63 (.putfield 49) 3 66 := ⟨by decide +kernel, rfl⟩
theorem d_X1_become_66 : gd cX1_become 66 (.aload_n 0) 1 67 := ⟨by decide +kernel, rfl⟩
theorem d_X1_become_67 : gd cX1_become 67 (.aload_n 1) 1 68 := ⟨by decide +kernel, rfl⟩
theorem d_X1_become_68 : gd cX1_become 68 (.getfield 52) 3 71 := ⟨by decide +kernel, rfl⟩
theorem d_X1_become_71 : gd cX1_become 71 (.putfield 52) 3 74 := ⟨by decide +kernel, rfl⟩
theorem d_X1_become_74 : gd cX1_become 74 (.aload_n 0) 1 75 := ⟨by decide +kernel, rfl⟩
theorem d_X1_become_75 : gd cX1_become 75 (.aload_n 1) 1 76 := ⟨by decide +kernel, rfl⟩
theorem d_X1_become_76 : gd cX1_become 76 (.getfield 28) 3 79 := ⟨by decide +kernel, rfl⟩
theorem d_X1_become_79 : gd cX1_become 79 (.putfield 28) 3 82 := ⟨by decide +kernel, rfl⟩
theorem d_X1_become_82 : gd cX1_become 82 (.aload_n 0) 1 83 := ⟨by decide +kernel, rfl⟩
theorem d_X1_become_83 : gd cX1_become 83 (.aload_n 1) 1 84 := ⟨by decide +kernel, rfl⟩
theorem d_X1_become_84 : gd cX1_become 84 (.getfield 31) 3 87 := ⟨by decide +kernel, rfl⟩
theorem d_X1_become_87 : gd cX1_become 87 (.putfield 31) 3 90 := ⟨by decide +kernel, rfl⟩
theorem d_X1_become_90 : gd cX1_become 90 (.aload_n 0) 1 91 := ⟨by decide +kernel, rfl⟩
theorem d_X1_become_91 : gd cX1_become 91 (.aload_n 1) 1 92 := ⟨by decide +kernel, rfl⟩
theorem d_X1_become_92 : gd cX1_become 92 (.getfield 34) 3 95 := ⟨by decide +kernel, rfl⟩
theorem d_X1_become_95 : gd cX1_become 95 (.putfield 34) 3 98 := ⟨by decide +kernel, rfl⟩
theorem d_X1_become_98 : gd cX1_become 98 (.aload_n 0) 1 99 := ⟨by decide +kernel, rfl⟩
theorem d_X1_become_99 : gd cX1_become 99 (.aload_n 1) 1 100 := ⟨by decide +kernel, rfl⟩
theorem d_X1_become_100 : gd cX1_become 100 (.getfield 37) 3 103 := ⟨by decide +kernel, rfl⟩
theorem d_X1_become_103 : gd cX1_become 103 (.putfield 37) 3 106 := ⟨by decide +kernel, rfl⟩
theorem d_X1_become_106 : gd cX1_become 106 (.aload_n 0) 1 107 := ⟨by decide +kernel, rfl⟩
theorem d_X1_become_107 : gd cX1_become 107 (.aload_n 1) 1 108 := ⟨by decide +kernel, rfl⟩
theorem d_X1_become_108 : gd cX1_become 108 (.getfield 40) 3 111 := ⟨by decide +kernel, rfl⟩
theorem d_X1_become_111 : gd cX1_become 111 (.putfield 40) 3 114 := ⟨by decide +kernel, rfl⟩
theorem d_X1_become_114 : gd cX1_become 114 (.aload_n 0) 1 115 := ⟨by decide +kernel, rfl⟩
theorem d_X1_become_115 : gd cX1_become 115 (.invokevirtual 55) 3 118 := ⟨by decide +kernel, rfl⟩
theorem d_X1_become_118 : gd cX1_become 118 .return_ 1 119 := ⟨by decide +kernel, rfl⟩
def Bo_X1_become_2 (q2 : Nat → Nat → Int32 → gs_M → Option (gs_M)) (a0 : Nat) (a1 : Nat) (x2 : Int32) (μ : gs_M) : Option (gs_M) :=
  if (12 : Int32) ≤ x2 then (lt1 (sI μ a0 1 (gI μ a1 1)) (fun u2 => lt1 (sI u2 a0 8 (gI u2 a1 8)) (fun u3 => lt1 (sI u3 a0 2 (gI u3 a1 2)) (fun u4 => lt1 (sI u4 a0 3 (gI u4 a1 3)) (fun u5 => lt1 (sI u5 a0 4 (gI u5 a1 4)) (fun u6 => lt1 (sI u6 a0 5 (gI u6 a1 5)) (fun u7 => lt1 (sI u7 a0 9 (gI u7 a1 9)) (fun u8 => lt1 (sI u8 a0 10 (gI u8 a1 10)) (fun u9 => lt1 (sI u9 a0 11 (gI u9 a1 11)) (fun u10 => lt1 (sI u10 a0 12 (gI u10 a1 12)) (fun u11 => lt1 (sI u11 a0 13 (gI u11 a1 13)) (fun u12 => bd0 (D_X1_clearCounts a0 u12) (fun u14 => some u14))))))))))))) else (ck (inb x2 12) (ck (inb x2 12) (lt1 (sI μ (a0 + 1) (Int32.toNatClampNeg x2) (gI μ (a1 + 1) (Int32.toNatClampNeg x2))) (fun u17 => q2 a0 a1 (x2 + (1 : Int32)) u17))))
def L_X1_become_2  : Nat → Nat → Nat → Int32 → gs_M → Option (gs_M)
  | 0 => fun _ _ _ _ => none
  | n + 1 => fun a0 a1 x2 μ => Bo_X1_become_2  (L_X1_become_2  n) a0 a1 x2 μ
def D_X1_become (a0 : Nat) (a1 : Nat) (μ : gs_M) : Option (gs_M) :=
  L_X1_become_2 4096 a0 a1 (0 : Int32) μ
section S_X1_become
variable {p : Program} {l : Launch} {e : Env} {R : Room} {s : State} {m : MethodId} {args : Array Value} {below : List Frame} {meth : Method} {c : Code} {ad : Nat → Nat} {g : va_G} {tyc : Nat → ClassId}
set_option maxRecDepth 20000 in
theorem To_X1_become_2  (hK : KC p R s m args meth c ad g tyc RX1 cX1_become 3 none 1) {μ2 : gs_M} {q2 : Nat → Nat → Int32 → gs_M → Option (gs_M)} (hq2 : ∀ (a0 : Nat) (a1 : Nat) (x2 : Int32) (μ : gs_M), kd a0 = 1 → kd a1 = 1 → q2 a0 a1 x2 μ = some μ2 → WJ p l e R s m args below meth c 0 0 (MQ below (gs_Q ad g tyc none μ2) args s 0 0 (gs_A ad)) ad g tyc 3 2 [.ref a0, .ref a1, .int x2] [] μ) {a0 : Nat} {a1 : Nat} {x2 : Int32} {μ : gs_M} (hk0 : kd a0 = 1) (hk1 : kd a1 = 1) (hD : Bo_X1_become_2 q2 a0 a1 x2 μ = some μ2) : WJ p l e R s m args below meth c 0 0 (MQ below (gs_Q ad g tyc none μ2) args s 0 0 (gs_A ad)) ad g tyc 3 2 [.ref a0, .ref a1, .int x2] [] μ := by
  unfold Bo_X1_become_2 at hD
  refine r_iload_n hK d_X1_become_2 rfl rfl ?_
  refine r_bipush hK d_X1_become_3 cb_12 ?_
  refine r_icmp_ge (tgt := 26) hK d_X1_become_5 (by decide) (fun h1 => ?_) (fun h1 => ?_)
  · have hD := if_t hD h1
    refine r_aload_n hK d_X1_become_26 rfl rfl ?_
    refine r_aload_n hK d_X1_become_27 rfl rfl ?_
    refine r_getI hK d_X1_become_28 fl_RX1_15_1 rfl hk1 ?_
    refine r_putI hK d_X1_become_31 fl_RX1_15_1 rfl rfl hk0 ?_
    refine r_ltm hD (fun u2 hD => ?_)
    refine r_aload_n hK d_X1_become_34 rfl rfl ?_
    refine r_aload_n hK d_X1_become_35 rfl rfl ?_
    refine r_getI hK d_X1_become_36 fl_RX1_19_1 rfl hk1 ?_
    refine r_putI hK d_X1_become_39 fl_RX1_19_1 rfl rfl hk0 ?_
    refine r_ltm hD (fun u3 hD => ?_)
    refine r_aload_n hK d_X1_become_42 rfl rfl ?_
    refine r_aload_n hK d_X1_become_43 rfl rfl ?_
    refine r_getI hK d_X1_become_44 fl_RX1_43_1 rfl hk1 ?_
    refine r_putI hK d_X1_become_47 fl_RX1_43_1 rfl rfl hk0 ?_
    refine r_ltm hD (fun u4 hD => ?_)
    refine r_aload_n hK d_X1_become_50 rfl rfl ?_
    refine r_aload_n hK d_X1_become_51 rfl rfl ?_
    refine r_getI hK d_X1_become_52 fl_RX1_46_1 rfl hk1 ?_
    refine r_putI hK d_X1_become_55 fl_RX1_46_1 rfl rfl hk0 ?_
    refine r_ltm hD (fun u5 hD => ?_)
    refine r_aload_n hK d_X1_become_58 rfl rfl ?_
    refine r_aload_n hK d_X1_become_59 rfl rfl ?_
    refine r_getI hK d_X1_become_60 fl_RX1_49_1 rfl hk1 ?_
    refine r_putI hK d_X1_become_63 fl_RX1_49_1 rfl rfl hk0 ?_
    refine r_ltm hD (fun u6 hD => ?_)
    refine r_aload_n hK d_X1_become_66 rfl rfl ?_
    refine r_aload_n hK d_X1_become_67 rfl rfl ?_
    refine r_getI hK d_X1_become_68 fl_RX1_52_1 rfl hk1 ?_
    refine r_putI hK d_X1_become_71 fl_RX1_52_1 rfl rfl hk0 ?_
    refine r_ltm hD (fun u7 hD => ?_)
    refine r_aload_n hK d_X1_become_74 rfl rfl ?_
    refine r_aload_n hK d_X1_become_75 rfl rfl ?_
    refine r_getI hK d_X1_become_76 fl_RX1_28_1 rfl hk1 ?_
    refine r_putI hK d_X1_become_79 fl_RX1_28_1 rfl rfl hk0 ?_
    refine r_ltm hD (fun u8 hD => ?_)
    refine r_aload_n hK d_X1_become_82 rfl rfl ?_
    refine r_aload_n hK d_X1_become_83 rfl rfl ?_
    refine r_getI hK d_X1_become_84 fl_RX1_31_1 rfl hk1 ?_
    refine r_putI hK d_X1_become_87 fl_RX1_31_1 rfl rfl hk0 ?_
    refine r_ltm hD (fun u9 hD => ?_)
    refine r_aload_n hK d_X1_become_90 rfl rfl ?_
    refine r_aload_n hK d_X1_become_91 rfl rfl ?_
    refine r_getI hK d_X1_become_92 fl_RX1_34_1 rfl hk1 ?_
    refine r_putI hK d_X1_become_95 fl_RX1_34_1 rfl rfl hk0 ?_
    refine r_ltm hD (fun u10 hD => ?_)
    refine r_aload_n hK d_X1_become_98 rfl rfl ?_
    refine r_aload_n hK d_X1_become_99 rfl rfl ?_
    refine r_getI hK d_X1_become_100 fl_RX1_37_1 rfl hk1 ?_
    refine r_putI hK d_X1_become_103 fl_RX1_37_1 rfl rfl hk0 ?_
    refine r_ltm hD (fun u11 hD => ?_)
    refine r_aload_n hK d_X1_become_106 rfl rfl ?_
    refine r_aload_n hK d_X1_become_107 rfl rfl ?_
    refine r_getI hK d_X1_become_108 fl_RX1_40_1 rfl hk1 ?_
    refine r_putI hK d_X1_become_111 fl_RX1_40_1 rfl rfl hk0 ?_
    refine r_ltm hD (fun u12 hD => ?_)
    refine r_aload_n hK d_X1_become_114 rfl rfl ?_
    obtain ⟨u14, e13, hD⟩ := bd0_e hD
    refine r_callV (As := []) (st := []) (stk2 := []) hK (C_X1_clearCounts hk0 e13) d_X1_become_115 mf_X1_clearCounts ml_RX1_55 im_X1_clearCounts rfl se_1_RX1_X1_clearCounts hk0 rfl (Nat.le_of_ble_eq_true rfl) (by decide) ⟨Nat.zero_le _, Nat.zero_le _⟩ rfl rfl ?_
    cases hD
    exact r_vret hK d_X1_become_118
  · have hD := if_f hD h1
    refine r_aload_n hK d_X1_become_8 rfl rfl ?_
    refine r_getR hK d_X1_become_9 fl_RX1_9_1 rfl hk0 ?_
    refine r_ref (b := (a0 + 1)) ((ly_hold _ hk0).1) ?_
    refine r_iload_n hK d_X1_become_12 rfl rfl ?_
    refine r_aload_n hK d_X1_become_13 rfl rfl ?_
    refine r_getR hK d_X1_become_14 fl_RX1_9_1 rfl hk1 ?_
    refine r_ref (b := (a1 + 1)) ((ly_hold _ hk1).1) ?_
    refine r_iload_n hK d_X1_become_17 rfl rfl ?_
    obtain ⟨h15, hD⟩ := ck_e hD
    refine r_iald hK d_X1_become_18 ((ly_hold _ hk1).2.1) ((ly_hold _ hk1).2.2) (inb_in h15) ?_
    obtain ⟨h16, hD⟩ := ck_e hD
    refine r_iast hK d_X1_become_19 ((ly_hold _ hk0).2.1) ((ly_hold _ hk0).2.2) (inb_in h16) ?_
    refine r_ltm hD (fun u17 hD => ?_)
    refine r_iinc hK d_X1_become_20 rfl (v := x2 + (1 : Int32)) (by rw [ci_1]) (by decide) (ls2 := [.ref a0, .ref a1, .int (x2 + (1 : Int32))]) rfl ?_
    refine r_goto (tgt := 2) hK d_X1_become_23 (by decide) ?_
    exact hq2 _ _ _ _ hk0 hk1 hD
set_option maxRecDepth 20000 in
theorem TL_X1_become_2  (hK : KC p R s m args meth c ad g tyc RX1 cX1_become 3 none 1) {μ2 : gs_M}   : ∀ (n : Nat) (a0 : Nat) (a1 : Nat) (x2 : Int32) (μ : gs_M), kd a0 = 1 → kd a1 = 1 → L_X1_become_2  n a0 a1 x2 μ = some μ2 → WJ p l e R s m args below meth c 0 0 (MQ below (gs_Q ad g tyc none μ2) args s 0 0 (gs_A ad)) ad g tyc 3 2 [.ref a0, .ref a1, .int x2] [] μ := by
  intro n
  induction n with
  | zero => intro a0 a1 x2 μ hk0 hk1 hD; cases hD
  | succ n ih => intro a0 a1 x2 μ hk0 hk1 hD; exact To_X1_become_2 hK  ih hk0 hk1 hD
set_option maxRecDepth 20000 in
theorem C_X1_become  {a0 : Nat} {a1 : Nat} {μ : gs_M} {μ2 : gs_M} (hk0 : kd a0 = 1) (hk1 : kd a1 = 1) (hD : D_X1_become a0 a1 μ = some μ2) : CALL yX1_become cX1_become 3 none 1 [.ref a0, .ref a1] μ none μ2 := by
  unfold D_X1_become at hD
  refine gs_enter mf_X1_become (Nat.le_of_ble_eq_true rfl) (ls := [.ref a0, .ref a1, gs_J]) rfl (fun p l e R s m args below meth c ad g tyc hK => ?_)
  have hK : KC p R s m args meth c ad g tyc RX1 cX1_become 3 none 1 := hK
  refine r_iconst hK d_X1_become_0 ci_0 ?_
  refine r_istore_n hK d_X1_become_1 rfl (by decide) (ls2 := [.ref a0, .ref a1, .int (0 : Int32)]) rfl ?_
  exact TL_X1_become_2 hK  _ _ _ _ _ hk0 hk1 hD
end S_X1_become
theorem d_X1_layEvenly_0 : gd cX1_layEvenly 0 (.iconst 0) 1 1 := ⟨by decide +kernel, rfl⟩
theorem d_X1_layEvenly_1 : gd cX1_layEvenly 1 (.istore_n 2) 1 2 := ⟨by decide +kernel, rfl⟩
theorem d_X1_layEvenly_2 : gd cX1_layEvenly 2 (.iload_n 2) 1 3 := ⟨by decide +kernel, rfl⟩
theorem d_X1_layEvenly_3 : gd cX1_layEvenly 3 (.aload_n 0) 1 4 := ⟨by decide +kernel, rfl⟩
theorem d_X1_layEvenly_4 : gd cX1_layEvenly 4 (.getfield 15) 3 7 := ⟨by decide +kernel, rfl⟩
theorem d_X1_layEvenly_7 : gd cX1_layEvenly 7 (.if_icmp .ge 37) 3 10 := ⟨by decide +kernel, rfl⟩
theorem d_X1_layEvenly_10 : gd cX1_layEvenly 10 (.aload_n 0) 1 11 := ⟨by decide +kernel, rfl⟩
theorem d_X1_layEvenly_11 : gd cX1_layEvenly 11 (.getfield 9) 3 14 := ⟨by decide +kernel, rfl⟩
theorem d_X1_layEvenly_14 : gd cX1_layEvenly 14 (.iload_n 2) 1 15 := ⟨by decide +kernel, rfl⟩
theorem d_X1_layEvenly_15 : gd cX1_layEvenly 15 (.iload_n 1) 1 16 := ⟨by decide +kernel, rfl⟩
theorem d_X1_layEvenly_16 : gd cX1_layEvenly 16 (.aload_n 0) 1 17 := ⟨by decide +kernel, rfl⟩
theorem d_X1_layEvenly_17 : gd cX1_layEvenly 17 (.getfield 15) 3 20 := ⟨by decide +kernel, rfl⟩
theorem d_X1_layEvenly_20 : gd cX1_layEvenly 20 .idiv 1 21 := ⟨by decide +kernel, rfl⟩
theorem d_X1_layEvenly_21 : gd cX1_layEvenly 21 (.iload_n 2) 1 22 := ⟨by decide +kernel, rfl⟩
theorem d_X1_layEvenly_22 : gd cX1_layEvenly 22 (.iload_n 1) 1 23 := ⟨by decide +kernel, rfl⟩
theorem d_X1_layEvenly_23 : gd cX1_layEvenly 23 (.aload_n 0) 1 24 := ⟨by decide +kernel, rfl⟩
theorem d_X1_layEvenly_24 : gd cX1_layEvenly 24 (.getfield 15) 3 27 := ⟨by decide +kernel, rfl⟩
theorem d_X1_layEvenly_27 : gd cX1_layEvenly 27 .irem 1 28 := ⟨by decide +kernel, rfl⟩
theorem d_X1_layEvenly_28 : gd cX1_layEvenly 28 (.if_icmp .ge 7) 3 31 := ⟨by decide +kernel, rfl⟩
theorem d_X1_layEvenly_31 : gd cX1_layEvenly 31 (.iconst 1) 1 32 := ⟨by decide +kernel, rfl⟩
theorem d_X1_layEvenly_32 : gd cX1_layEvenly 32 (.goto 4) 3 35 := ⟨by decide +kernel, rfl⟩
theorem d_X1_layEvenly_35 : gd cX1_layEvenly 35 (.iconst 0) 1 36 := ⟨by decide +kernel, rfl⟩
theorem d_X1_layEvenly_36 : gd cX1_layEvenly 36 .iadd 1 37 := ⟨by decide +kernel, rfl⟩
theorem d_X1_layEvenly_37 : gd cX1_layEvenly 37 .iastore 1 38 := ⟨by decide +kernel, rfl⟩
theorem d_X1_layEvenly_38 : gd cX1_layEvenly 38 (.iinc 2 1) 3 41 := ⟨by decide +kernel, rfl⟩
theorem d_X1_layEvenly_41 : gd cX1_layEvenly 41 (.goto (-39)) 3 44 := ⟨by decide +kernel, rfl⟩
theorem d_X1_layEvenly_44 : gd cX1_layEvenly 44 .return_ 1 45 := ⟨by decide +kernel, rfl⟩
def B_X1_layEvenly_36 (q2 : Nat → Int32 → Int32 → gs_M → Option (gs_M)) (a0 : Nat) (x1 : Int32) (x2 : Int32) (as0 : Nat) (xs1 : Int32) (xs2 : Int32) (xs3 : Int32) (μ : gs_M) : Option (gs_M) :=
  ck (inb xs1 12) (lt1 (sI μ as0 (Int32.toNatClampNeg xs1) (xs2 + xs3)) (fun u2 => q2 a0 x1 (x2 + (1 : Int32)) u2))
def Bo_X1_layEvenly_2 (q2 : Nat → Int32 → Int32 → gs_M → Option (gs_M)) (a0 : Nat) (x1 : Int32) (x2 : Int32) (μ : gs_M) : Option (gs_M) :=
  if (gI μ a0 1) ≤ x2 then (some μ) else (ck (nzi (gI μ a0 1)) (ck (nzi (gI μ a0 1)) (if (x1 - x1 / (gI μ a0 1) * (gI μ a0 1)) ≤ x2 then (B_X1_layEvenly_36 q2 a0 x1 x2 (a0 + 1) x2 (x1 / (gI μ a0 1)) (0 : Int32) μ) else (B_X1_layEvenly_36 q2 a0 x1 x2 (a0 + 1) x2 (x1 / (gI μ a0 1)) (1 : Int32) μ))))
def L_X1_layEvenly_2  : Nat → Nat → Int32 → Int32 → gs_M → Option (gs_M)
  | 0 => fun _ _ _ _ => none
  | n + 1 => fun a0 x1 x2 μ => Bo_X1_layEvenly_2  (L_X1_layEvenly_2  n) a0 x1 x2 μ
def D_X1_layEvenly (a0 : Nat) (x1 : Int32) (μ : gs_M) : Option (gs_M) :=
  L_X1_layEvenly_2 4096 a0 x1 (0 : Int32) μ
section S_X1_layEvenly
variable {p : Program} {l : Launch} {e : Env} {R : Room} {s : State} {m : MethodId} {args : Array Value} {below : List Frame} {meth : Method} {c : Code} {ad : Nat → Nat} {g : va_G} {tyc : Nat → ClassId}
set_option maxRecDepth 20000 in
theorem T_X1_layEvenly_36  (hK : KC p R s m args meth c ad g tyc RX1 cX1_layEvenly 3 none 0) {μ2 : gs_M} {q2 : Nat → Int32 → Int32 → gs_M → Option (gs_M)} (hq2 : ∀ (a0 : Nat) (x1 : Int32) (x2 : Int32) (μ : gs_M), kd a0 = 1 → q2 a0 x1 x2 μ = some μ2 → WJ p l e R s m args below meth c 0 0 (MQ below (gs_Q ad g tyc none μ2) args s 0 0 (gs_A ad)) ad g tyc 3 2 [.ref a0, .int x1, .int x2] [] μ) {a0 : Nat} {x1 : Int32} {x2 : Int32} {as0 : Nat} {xs1 : Int32} {xs2 : Int32} {xs3 : Int32} {μ : gs_M} (hk0 : kd a0 = 1) (hks0 : kd as0 = 20) (hls0 : ln as0 = 12) (hD : B_X1_layEvenly_36 q2 a0 x1 x2 as0 xs1 xs2 xs3 μ = some μ2) : WJ p l e R s m args below meth c 0 0 (MQ below (gs_Q ad g tyc none μ2) args s 0 0 (gs_A ad)) ad g tyc 3 36 [.ref a0, .int x1, .int x2] [.int xs3, .int xs2, .int xs1, .ref as0] μ := by
  unfold B_X1_layEvenly_36 at hD
  refine r_iadd hK d_X1_layEvenly_36 ?_
  obtain ⟨h1, hD⟩ := ck_e hD
  refine r_iast hK d_X1_layEvenly_37 hks0 hls0 (inb_in h1) ?_
  refine r_ltm hD (fun u2 hD => ?_)
  refine r_iinc hK d_X1_layEvenly_38 rfl (v := x2 + (1 : Int32)) (by rw [ci_1]) (by decide) (ls2 := [.ref a0, .int x1, .int (x2 + (1 : Int32))]) rfl ?_
  refine r_goto (tgt := 2) hK d_X1_layEvenly_41 (by decide) ?_
  exact hq2 _ _ _ _ hk0 hD
set_option maxRecDepth 20000 in
theorem To_X1_layEvenly_2  (hK : KC p R s m args meth c ad g tyc RX1 cX1_layEvenly 3 none 0) {μ2 : gs_M} {q2 : Nat → Int32 → Int32 → gs_M → Option (gs_M)} (hq2 : ∀ (a0 : Nat) (x1 : Int32) (x2 : Int32) (μ : gs_M), kd a0 = 1 → q2 a0 x1 x2 μ = some μ2 → WJ p l e R s m args below meth c 0 0 (MQ below (gs_Q ad g tyc none μ2) args s 0 0 (gs_A ad)) ad g tyc 3 2 [.ref a0, .int x1, .int x2] [] μ) {a0 : Nat} {x1 : Int32} {x2 : Int32} {μ : gs_M} (hk0 : kd a0 = 1) (hD : Bo_X1_layEvenly_2 q2 a0 x1 x2 μ = some μ2) : WJ p l e R s m args below meth c 0 0 (MQ below (gs_Q ad g tyc none μ2) args s 0 0 (gs_A ad)) ad g tyc 3 2 [.ref a0, .int x1, .int x2] [] μ := by
  unfold Bo_X1_layEvenly_2 at hD
  refine r_iload_n hK d_X1_layEvenly_2 rfl rfl ?_
  refine r_aload_n hK d_X1_layEvenly_3 rfl rfl ?_
  refine r_getI hK d_X1_layEvenly_4 fl_RX1_15_1 rfl hk0 ?_
  refine r_icmp_ge (tgt := 44) hK d_X1_layEvenly_7 (by decide) (fun h1 => ?_) (fun h1 => ?_)
  · have hD := if_t hD h1
    cases hD
    exact r_vret hK d_X1_layEvenly_44
  · have hD := if_f hD h1
    refine r_aload_n hK d_X1_layEvenly_10 rfl rfl ?_
    refine r_getR hK d_X1_layEvenly_11 fl_RX1_9_1 rfl hk0 ?_
    refine r_ref (b := (a0 + 1)) ((ly_hold _ hk0).1) ?_
    refine r_iload_n hK d_X1_layEvenly_14 rfl rfl ?_
    refine r_iload_n hK d_X1_layEvenly_15 rfl rfl ?_
    refine r_aload_n hK d_X1_layEvenly_16 rfl rfl ?_
    refine r_getI hK d_X1_layEvenly_17 fl_RX1_15_1 rfl hk0 ?_
    obtain ⟨h2, hD⟩ := ck_e hD
    refine r_idiv hK d_X1_layEvenly_20 (nzi_e h2) ?_
    refine r_iload_n hK d_X1_layEvenly_21 rfl rfl ?_
    refine r_iload_n hK d_X1_layEvenly_22 rfl rfl ?_
    refine r_aload_n hK d_X1_layEvenly_23 rfl rfl ?_
    refine r_getI hK d_X1_layEvenly_24 fl_RX1_15_1 rfl hk0 ?_
    obtain ⟨h3, hD⟩ := ck_e hD
    refine r_irem hK d_X1_layEvenly_27 (nzi_e h3) ?_
    refine r_icmp_ge (tgt := 35) hK d_X1_layEvenly_28 (by decide) (fun h4 => ?_) (fun h4 => ?_)
    · have hD := if_t hD h4
      refine r_iconst hK d_X1_layEvenly_35 ci_0 ?_
      exact T_X1_layEvenly_36 hK hq2 hk0 ((ly_hold _ hk0).2.1) ((ly_hold _ hk0).2.2) hD
    · have hD := if_f hD h4
      refine r_iconst hK d_X1_layEvenly_31 ci_1 ?_
      refine r_goto (tgt := 36) hK d_X1_layEvenly_32 (by decide) ?_
      exact T_X1_layEvenly_36 hK hq2 hk0 ((ly_hold _ hk0).2.1) ((ly_hold _ hk0).2.2) hD
set_option maxRecDepth 20000 in
theorem TL_X1_layEvenly_2  (hK : KC p R s m args meth c ad g tyc RX1 cX1_layEvenly 3 none 0) {μ2 : gs_M}   : ∀ (n : Nat) (a0 : Nat) (x1 : Int32) (x2 : Int32) (μ : gs_M), kd a0 = 1 → L_X1_layEvenly_2  n a0 x1 x2 μ = some μ2 → WJ p l e R s m args below meth c 0 0 (MQ below (gs_Q ad g tyc none μ2) args s 0 0 (gs_A ad)) ad g tyc 3 2 [.ref a0, .int x1, .int x2] [] μ := by
  intro n
  induction n with
  | zero => intro a0 x1 x2 μ hk0 hD; cases hD
  | succ n ih => intro a0 x1 x2 μ hk0 hD; exact To_X1_layEvenly_2 hK  ih hk0 hD
set_option maxRecDepth 20000 in
theorem C_X1_layEvenly  {a0 : Nat} {x1 : Int32} {μ : gs_M} {μ2 : gs_M} (hk0 : kd a0 = 1) (hD : D_X1_layEvenly a0 x1 μ = some μ2) : CALL yX1_layEvenly cX1_layEvenly 3 none 0 [.ref a0, .int x1] μ none μ2 := by
  unfold D_X1_layEvenly at hD
  refine gs_enter mf_X1_layEvenly (Nat.le_of_ble_eq_true rfl) (ls := [.ref a0, .int x1, gs_J]) rfl (fun p l e R s m args below meth c ad g tyc hK => ?_)
  have hK : KC p R s m args meth c ad g tyc RX1 cX1_layEvenly 3 none 0 := hK
  refine r_iconst hK d_X1_layEvenly_0 ci_0 ?_
  refine r_istore_n hK d_X1_layEvenly_1 rfl (by decide) (ls2 := [.ref a0, .int x1, .int (0 : Int32)]) rfl ?_
  exact TL_X1_layEvenly_2 hK  _ _ _ _ _ hk0 hD
end S_X1_layEvenly
theorem d_X1_nearestNotFull_0 : gd cX1_nearestNotFull 0 (.iconst 0) 1 1 := ⟨by decide +kernel, rfl⟩
theorem d_X1_nearestNotFull_1 : gd cX1_nearestNotFull 1 (.istore_n 2) 1 2 := ⟨by decide +kernel, rfl⟩
theorem d_X1_nearestNotFull_2 : gd cX1_nearestNotFull 2 (.iload_n 2) 1 3 := ⟨by decide +kernel, rfl⟩
theorem d_X1_nearestNotFull_3 : gd cX1_nearestNotFull 3 (.aload_n 0) 1 4 := ⟨by decide +kernel, rfl⟩
theorem d_X1_nearestNotFull_4 : gd cX1_nearestNotFull 4 (.getfield 15) 3 7 := ⟨by decide +kernel, rfl⟩
theorem d_X1_nearestNotFull_7 : gd cX1_nearestNotFull 7 (.if_icmp .ge 63) 3 10 := ⟨by decide +kernel, rfl⟩
theorem d_X1_nearestNotFull_10 : gd cX1_nearestNotFull 10 (.iload_n 1) 1 11 := ⟨by decide +kernel, rfl⟩
theorem d_X1_nearestNotFull_11 : gd cX1_nearestNotFull 11 (.iload_n 2) 1 12 := ⟨by decide +kernel, rfl⟩
theorem d_X1_nearestNotFull_12 : gd cX1_nearestNotFull 12 .isub 1 13 := ⟨by decide +kernel, rfl⟩
theorem d_X1_nearestNotFull_13 : gd cX1_nearestNotFull 13 (.istore_n 3) 1 14 := ⟨by decide +kernel, rfl⟩
theorem d_X1_nearestNotFull_14 : gd cX1_nearestNotFull 14 (.iload_n 1) 1 15 := ⟨by decide +kernel, rfl⟩
theorem d_X1_nearestNotFull_15 : gd cX1_nearestNotFull 15 (.iload_n 2) 1 16 := ⟨by decide +kernel, rfl⟩
theorem d_X1_nearestNotFull_16 : gd cX1_nearestNotFull 16 .iadd 1 17 := ⟨by decide +kernel, rfl⟩
theorem d_X1_nearestNotFull_17 : gd cX1_nearestNotFull 17 (.istore 4) 2 19 := ⟨by decide +kernel, rfl⟩
theorem d_X1_nearestNotFull_19 : gd cX1_nearestNotFull 19 (.iload_n 3) 1 20 := ⟨by decide +kernel, rfl⟩
theorem d_X1_nearestNotFull_20 : gd cX1_nearestNotFull 20 (.ifCond .lt 18) 3 23 := ⟨by decide +kernel, rfl⟩
theorem d_X1_nearestNotFull_23 : gd cX1_nearestNotFull 23 (.aload_n 0) 1 24 := ⟨by decide +kernel, rfl⟩
theorem d_X1_nearestNotFull_24 : gd cX1_nearestNotFull 24 (.getfield 9) 3 27 := ⟨by decide +kernel, rfl⟩
theorem d_X1_nearestNotFull_27 : gd cX1_nearestNotFull 27 (.iload_n 3) 1 28 := ⟨by decide +kernel, rfl⟩
theorem d_X1_nearestNotFull_28 : gd cX1_nearestNotFull 28 .iaload 1 29 := ⟨by decide +kernel, rfl⟩
theorem d_X1_nearestNotFull_29 : gd cX1_nearestNotFull 29 (.aload_n 0) 1 30 := ⟨by decide +kernel, rfl⟩
theorem d_X1_nearestNotFull_30 : gd cX1_nearestNotFull 30 (.getfield 19) 3 33 := ⟨by decide +kernel, rfl⟩
theorem d_X1_nearestNotFull_33 : gd cX1_nearestNotFull 33 (.if_icmp .ge 5) 3 36 := ⟨by decide +kernel, rfl⟩
theorem d_X1_nearestNotFull_36 : gd cX1_nearestNotFull 36 (.iload_n 3) 1 37 := ⟨by decide +kernel, rfl⟩
theorem d_X1_nearestNotFull_37 : gd cX1_nearestNotFull 37 .ireturn 1 38 := ⟨by decide +kernel, rfl⟩
theorem d_X1_nearestNotFull_38 : gd cX1_nearestNotFull 38 (.iload 4) 2 40 := ⟨by decide +kernel, rfl⟩
theorem d_X1_nearestNotFull_40 : gd cX1_nearestNotFull 40 (.aload_n 0) 1 41 := ⟨by decide +kernel, rfl⟩
theorem d_X1_nearestNotFull_41 : gd cX1_nearestNotFull 41 (.getfield 15) 3 44 := ⟨by decide +kernel, rfl⟩
theorem d_X1_nearestNotFull_44 : gd cX1_nearestNotFull 44 (.if_icmp .ge 20) 3 47 := ⟨by decide +kernel, rfl⟩
theorem d_X1_nearestNotFull_47 : gd cX1_nearestNotFull 47 (.aload_n 0) 1 48 := ⟨by decide +kernel, rfl⟩
theorem d_X1_nearestNotFull_48 : gd cX1_nearestNotFull 48 (.getfield 9) 3 51 := ⟨by decide +kernel, rfl⟩
theorem d_X1_nearestNotFull_51 : gd cX1_nearestNotFull 51 (.iload 4) 2 53 := ⟨by decide +kernel, rfl⟩
theorem d_X1_nearestNotFull_53 : gd cX1_nearestNotFull 53 .iaload 1 54 := ⟨by decide +kernel, rfl⟩
theorem d_X1_nearestNotFull_54 : gd cX1_nearestNotFull 54 (.aload_n 0) 1 55 := ⟨by decide +kernel, rfl⟩
theorem d_X1_nearestNotFull_55 : gd cX1_nearestNotFull 55 (.getfield 19) 3 58 := ⟨by decide +kernel, rfl⟩
theorem d_X1_nearestNotFull_58 : gd cX1_nearestNotFull 58 (.if_icmp .ge 6) 3 61 := ⟨by decide +kernel, rfl⟩
theorem d_X1_nearestNotFull_61 : gd cX1_nearestNotFull 61 (.iload 4) 2 63 := ⟨by decide +kernel, rfl⟩
theorem d_X1_nearestNotFull_63 : gd cX1_nearestNotFull 63 .ireturn 1 64 := ⟨by decide +kernel, rfl⟩
theorem d_X1_nearestNotFull_64 : gd cX1_nearestNotFull 64 (.iinc 2 1) 3 67 := ⟨by decide +kernel, rfl⟩
theorem d_X1_nearestNotFull_67 : gd cX1_nearestNotFull 67 (.goto (-65)) 3 70 := ⟨by decide +kernel, rfl⟩
theorem d_X1_nearestNotFull_70 : gd cX1_nearestNotFull 70 (.iconst (-1)) 1 71 := ⟨by decide +kernel, rfl⟩
theorem d_X1_nearestNotFull_71 : gd cX1_nearestNotFull 71 .ireturn 1 72 := ⟨by decide +kernel, rfl⟩
def B_X1_nearestNotFull_38 (q2 : Nat → Int32 → Int32 → gs_M → Option (Int32 × gs_M)) (a0 : Nat) (x1 : Int32) (x2 : Int32) (x4 : Int32) (μ : gs_M) : Option (Int32 × gs_M) :=
  if (gI μ a0 1) ≤ x4 then (q2 a0 x1 (x2 + (1 : Int32)) μ) else (ck (inb x4 12) (if (gI μ a0 8) ≤ (gI μ (a0 + 1) (Int32.toNatClampNeg x4)) then (q2 a0 x1 (x2 + (1 : Int32)) μ) else (some (x4, μ))))
def Bo_X1_nearestNotFull_2 (q2 : Nat → Int32 → Int32 → gs_M → Option (Int32 × gs_M)) (a0 : Nat) (x1 : Int32) (x2 : Int32) (μ : gs_M) : Option (Int32 × gs_M) :=
  if (gI μ a0 1) ≤ x2 then (some ((-1 : Int32), μ)) else (lt1 (x1 - x2) (fun v2 => lt1 (x1 + x2) (fun v3 => if v2 < 0 then (B_X1_nearestNotFull_38 q2 a0 x1 x2 v3 μ) else (ck (inb v2 12) (if (gI μ a0 8) ≤ (gI μ (a0 + 1) (Int32.toNatClampNeg v2)) then (B_X1_nearestNotFull_38 q2 a0 x1 x2 v3 μ) else (some (v2, μ)))))))
def L_X1_nearestNotFull_2  : Nat → Nat → Int32 → Int32 → gs_M → Option (Int32 × gs_M)
  | 0 => fun _ _ _ _ => none
  | n + 1 => fun a0 x1 x2 μ => Bo_X1_nearestNotFull_2  (L_X1_nearestNotFull_2  n) a0 x1 x2 μ
def D_X1_nearestNotFull (a0 : Nat) (x1 : Int32) (μ : gs_M) : Option (Int32 × gs_M) :=
  L_X1_nearestNotFull_2 4096 a0 x1 (0 : Int32) μ
section S_X1_nearestNotFull
variable {p : Program} {l : Launch} {e : Env} {R : Room} {s : State} {m : MethodId} {args : Array Value} {below : List Frame} {meth : Method} {c : Code} {ad : Nat → Nat} {g : va_G} {tyc : Nat → ClassId}
set_option maxRecDepth 20000 in
theorem T_X1_nearestNotFull_38  (hK : KC p R s m args meth c ad g tyc RX1 cX1_nearestNotFull 5 (some .int) 0) {r : Int32} {μ2 : gs_M} {q2 : Nat → Int32 → Int32 → gs_M → Option (Int32 × gs_M)} (hq2 : ∀ (a0 : Nat) (x1 : Int32) (x2 : Int32) (μ : gs_M), kd a0 = 1 → q2 a0 x1 x2 μ = some (r, μ2) → WJ p l e R s m args below meth c 0 0 (MQ below (gs_Q ad g tyc (some (.int r)) μ2) args s 0 0 (gs_A ad)) ad g tyc 5 2 [.ref a0, .int x1, .int x2, gs_J, gs_J] [] μ) {a0 : Nat} {x1 : Int32} {x2 : Int32} {x4 : Int32} {μ : gs_M} (hk0 : kd a0 = 1) (hD : B_X1_nearestNotFull_38 q2 a0 x1 x2 x4 μ = some (r, μ2)) : WJ p l e R s m args below meth c 0 0 (MQ below (gs_Q ad g tyc (some (.int r)) μ2) args s 0 0 (gs_A ad)) ad g tyc 5 38 [.ref a0, .int x1, .int x2, gs_J, .int x4] [] μ := by
  unfold B_X1_nearestNotFull_38 at hD
  refine r_iload hK d_X1_nearestNotFull_38 rfl ?_
  refine r_aload_n hK d_X1_nearestNotFull_40 rfl rfl ?_
  refine r_getI hK d_X1_nearestNotFull_41 fl_RX1_15_1 rfl hk0 ?_
  refine r_icmp_ge (tgt := 64) hK d_X1_nearestNotFull_44 (by decide) (fun h1 => ?_) (fun h1 => ?_)
  · have hD := if_t hD h1
    refine r_iinc hK d_X1_nearestNotFull_64 rfl (v := x2 + (1 : Int32)) (by rw [ci_1]) (by decide) (ls2 := [.ref a0, .int x1, .int (x2 + (1 : Int32)), gs_J, .int x4]) rfl ?_
    refine r_goto (tgt := 2) hK d_X1_nearestNotFull_67 (by decide) ?_
    refine r_junk [true, true, true, false, false] (ls2 := [.ref a0, .int x1, .int (x2 + (1 : Int32)), gs_J, gs_J]) rfl ?_
    exact hq2 _ _ _ _ hk0 hD
  · have hD := if_f hD h1
    refine r_aload_n hK d_X1_nearestNotFull_47 rfl rfl ?_
    refine r_getR hK d_X1_nearestNotFull_48 fl_RX1_9_1 rfl hk0 ?_
    refine r_ref (b := (a0 + 1)) ((ly_hold _ hk0).1) ?_
    refine r_iload hK d_X1_nearestNotFull_51 rfl ?_
    obtain ⟨h2, hD⟩ := ck_e hD
    refine r_iald hK d_X1_nearestNotFull_53 ((ly_hold _ hk0).2.1) ((ly_hold _ hk0).2.2) (inb_in h2) ?_
    refine r_aload_n hK d_X1_nearestNotFull_54 rfl rfl ?_
    refine r_getI hK d_X1_nearestNotFull_55 fl_RX1_19_1 rfl hk0 ?_
    refine r_icmp_ge (tgt := 64) hK d_X1_nearestNotFull_58 (by decide) (fun h3 => ?_) (fun h3 => ?_)
    · have hD := if_t hD h3
      refine r_iinc hK d_X1_nearestNotFull_64 rfl (v := x2 + (1 : Int32)) (by rw [ci_1]) (by decide) (ls2 := [.ref a0, .int x1, .int (x2 + (1 : Int32)), gs_J, .int x4]) rfl ?_
      refine r_goto (tgt := 2) hK d_X1_nearestNotFull_67 (by decide) ?_
      refine r_junk [true, true, true, false, false] (ls2 := [.ref a0, .int x1, .int (x2 + (1 : Int32)), gs_J, gs_J]) rfl ?_
      exact hq2 _ _ _ _ hk0 hD
    · have hD := if_f hD h3
      refine r_iload hK d_X1_nearestNotFull_61 rfl ?_
      cases hD
      exact r_iret hK d_X1_nearestNotFull_63
set_option maxRecDepth 20000 in
theorem To_X1_nearestNotFull_2  (hK : KC p R s m args meth c ad g tyc RX1 cX1_nearestNotFull 5 (some .int) 0) {r : Int32} {μ2 : gs_M} {q2 : Nat → Int32 → Int32 → gs_M → Option (Int32 × gs_M)} (hq2 : ∀ (a0 : Nat) (x1 : Int32) (x2 : Int32) (μ : gs_M), kd a0 = 1 → q2 a0 x1 x2 μ = some (r, μ2) → WJ p l e R s m args below meth c 0 0 (MQ below (gs_Q ad g tyc (some (.int r)) μ2) args s 0 0 (gs_A ad)) ad g tyc 5 2 [.ref a0, .int x1, .int x2, gs_J, gs_J] [] μ) {a0 : Nat} {x1 : Int32} {x2 : Int32} {μ : gs_M} (hk0 : kd a0 = 1) (hD : Bo_X1_nearestNotFull_2 q2 a0 x1 x2 μ = some (r, μ2)) : WJ p l e R s m args below meth c 0 0 (MQ below (gs_Q ad g tyc (some (.int r)) μ2) args s 0 0 (gs_A ad)) ad g tyc 5 2 [.ref a0, .int x1, .int x2, gs_J, gs_J] [] μ := by
  unfold Bo_X1_nearestNotFull_2 at hD
  refine r_iload_n hK d_X1_nearestNotFull_2 rfl rfl ?_
  refine r_aload_n hK d_X1_nearestNotFull_3 rfl rfl ?_
  refine r_getI hK d_X1_nearestNotFull_4 fl_RX1_15_1 rfl hk0 ?_
  refine r_icmp_ge (tgt := 70) hK d_X1_nearestNotFull_7 (by decide) (fun h1 => ?_) (fun h1 => ?_)
  · have hD := if_t hD h1
    refine r_iconst hK d_X1_nearestNotFull_70 ci_m1 ?_
    cases hD
    exact r_iret hK d_X1_nearestNotFull_71
  · have hD := if_f hD h1
    refine r_iload_n hK d_X1_nearestNotFull_10 rfl rfl ?_
    refine r_iload_n hK d_X1_nearestNotFull_11 rfl rfl ?_
    refine r_isub hK d_X1_nearestNotFull_12 ?_
    refine r_lti hD (fun v2 hD => ?_)
    refine r_istore_n hK d_X1_nearestNotFull_13 rfl (by decide) (ls2 := [.ref a0, .int x1, .int x2, .int v2, gs_J]) rfl ?_
    refine r_iload_n hK d_X1_nearestNotFull_14 rfl rfl ?_
    refine r_iload_n hK d_X1_nearestNotFull_15 rfl rfl ?_
    refine r_iadd hK d_X1_nearestNotFull_16 ?_
    refine r_lti hD (fun v3 hD => ?_)
    refine r_istore hK d_X1_nearestNotFull_17 (by decide) (ls2 := [.ref a0, .int x1, .int x2, .int v2, .int v3]) rfl ?_
    refine r_iload_n hK d_X1_nearestNotFull_19 rfl rfl ?_
    refine r_if_lt (tgt := 38) hK d_X1_nearestNotFull_20 (by decide) (fun h4 => ?_) (fun h4 => ?_)
    · have hD := if_t hD h4
      refine r_junk [true, true, true, false, true] (ls2 := [.ref a0, .int x1, .int x2, gs_J, .int v3]) rfl ?_
      exact T_X1_nearestNotFull_38 hK hq2 hk0 hD
    · have hD := if_f hD h4
      refine r_aload_n hK d_X1_nearestNotFull_23 rfl rfl ?_
      refine r_getR hK d_X1_nearestNotFull_24 fl_RX1_9_1 rfl hk0 ?_
      refine r_ref (b := (a0 + 1)) ((ly_hold _ hk0).1) ?_
      refine r_iload_n hK d_X1_nearestNotFull_27 rfl rfl ?_
      obtain ⟨h5, hD⟩ := ck_e hD
      refine r_iald hK d_X1_nearestNotFull_28 ((ly_hold _ hk0).2.1) ((ly_hold _ hk0).2.2) (inb_in h5) ?_
      refine r_aload_n hK d_X1_nearestNotFull_29 rfl rfl ?_
      refine r_getI hK d_X1_nearestNotFull_30 fl_RX1_19_1 rfl hk0 ?_
      refine r_icmp_ge (tgt := 38) hK d_X1_nearestNotFull_33 (by decide) (fun h6 => ?_) (fun h6 => ?_)
      · have hD := if_t hD h6
        refine r_junk [true, true, true, false, true] (ls2 := [.ref a0, .int x1, .int x2, gs_J, .int v3]) rfl ?_
        exact T_X1_nearestNotFull_38 hK hq2 hk0 hD
      · have hD := if_f hD h6
        refine r_iload_n hK d_X1_nearestNotFull_36 rfl rfl ?_
        cases hD
        exact r_iret hK d_X1_nearestNotFull_37
set_option maxRecDepth 20000 in
theorem TL_X1_nearestNotFull_2  (hK : KC p R s m args meth c ad g tyc RX1 cX1_nearestNotFull 5 (some .int) 0) {r : Int32} {μ2 : gs_M}   : ∀ (n : Nat) (a0 : Nat) (x1 : Int32) (x2 : Int32) (μ : gs_M), kd a0 = 1 → L_X1_nearestNotFull_2  n a0 x1 x2 μ = some (r, μ2) → WJ p l e R s m args below meth c 0 0 (MQ below (gs_Q ad g tyc (some (.int r)) μ2) args s 0 0 (gs_A ad)) ad g tyc 5 2 [.ref a0, .int x1, .int x2, gs_J, gs_J] [] μ := by
  intro n
  induction n with
  | zero => intro a0 x1 x2 μ hk0 hD; cases hD
  | succ n ih => intro a0 x1 x2 μ hk0 hD; exact To_X1_nearestNotFull_2 hK  ih hk0 hD
set_option maxRecDepth 20000 in
theorem C_X1_nearestNotFull  {a0 : Nat} {x1 : Int32} {μ : gs_M} {r : Int32} {μ2 : gs_M} (hk0 : kd a0 = 1) (hD : D_X1_nearestNotFull a0 x1 μ = some (r, μ2)) : CALL yX1_nearestNotFull cX1_nearestNotFull 5 (some .int) 0 [.ref a0, .int x1] μ (some (.int r)) μ2 := by
  unfold D_X1_nearestNotFull at hD
  refine gs_enter mf_X1_nearestNotFull (Nat.le_of_ble_eq_true rfl) (ls := [.ref a0, .int x1, gs_J, gs_J, gs_J]) rfl (fun p l e R s m args below meth c ad g tyc hK => ?_)
  have hK : KC p R s m args meth c ad g tyc RX1 cX1_nearestNotFull 5 (some .int) 0 := hK
  refine r_iconst hK d_X1_nearestNotFull_0 ci_0 ?_
  refine r_istore_n hK d_X1_nearestNotFull_1 rfl (by decide) (ls2 := [.ref a0, .int x1, .int (0 : Int32), gs_J, gs_J]) rfl ?_
  exact TL_X1_nearestNotFull_2 hK  _ _ _ _ _ hk0 hD
end S_X1_nearestNotFull
theorem d_X1_isSoup_0 : gd cX1_isSoup 0 (.iload_n 1) 1 1 := ⟨by decide +kernel, rfl⟩
theorem d_X1_isSoup_1 : gd cX1_isSoup 1 (.aload_n 0) 1 2 := ⟨by decide +kernel, rfl⟩
theorem d_X1_isSoup_2 : gd cX1_isSoup 2 (.getfield 34) 3 5 := ⟨by decide +kernel, rfl⟩
theorem d_X1_isSoup_5 : gd cX1_isSoup 5 .imul 1 6 := ⟨by decide +kernel, rfl⟩
theorem d_X1_isSoup_6 : gd cX1_isSoup 6 (.aload_n 0) 1 7 := ⟨by decide +kernel, rfl⟩
theorem d_X1_isSoup_7 : gd cX1_isSoup 7 (.getfield 37) 3 10 := ⟨by decide +kernel, rfl⟩
theorem d_X1_isSoup_10 : gd cX1_isSoup 10 (.if_icmp .le 7) 3 13 := ⟨by decide +kernel, rfl⟩
theorem d_X1_isSoup_13 : gd cX1_isSoup 13 (.iconst 1) 1 14 := ⟨by decide +kernel, rfl⟩
theorem d_X1_isSoup_14 : gd cX1_isSoup 14 (.goto 4) 3 17 := ⟨by decide +kernel, rfl⟩
theorem d_X1_isSoup_17 : gd cX1_isSoup 17 (.iconst 0) 1 18 := ⟨by decide +kernel, rfl⟩
theorem d_X1_isSoup_18 : gd cX1_isSoup 18 .ireturn 1 19 := ⟨by decide +kernel, rfl⟩
def D_X1_isSoup (a0 : Nat) (x1 : Int32) (μ : gs_M) : Option (Int32 × gs_M) :=
  if (x1 * (gI μ a0 11)) ≤ (gI μ a0 12) then (some ((0 : Int32), μ)) else (some ((1 : Int32), μ))
section S_X1_isSoup
variable {p : Program} {l : Launch} {e : Env} {R : Room} {s : State} {m : MethodId} {args : Array Value} {below : List Frame} {meth : Method} {c : Code} {ad : Nat → Nat} {g : va_G} {tyc : Nat → ClassId}
set_option maxRecDepth 20000 in
theorem C_X1_isSoup  {a0 : Nat} {x1 : Int32} {μ : gs_M} {r : Int32} {μ2 : gs_M} (hk0 : kd a0 = 1) (hD : D_X1_isSoup a0 x1 μ = some (r, μ2)) : CALL yX1_isSoup cX1_isSoup 2 (some .boolean) 0 [.ref a0, .int x1] μ (some (.int r)) μ2 := by
  unfold D_X1_isSoup at hD
  refine gs_enter mf_X1_isSoup (Nat.le_of_ble_eq_true rfl) (ls := [.ref a0, .int x1]) rfl (fun p l e R s m args below meth c ad g tyc hK => ?_)
  have hK : KC p R s m args meth c ad g tyc RX1 cX1_isSoup 2 (some .boolean) 0 := hK
  refine r_iload_n hK d_X1_isSoup_0 rfl rfl ?_
  refine r_aload_n hK d_X1_isSoup_1 rfl rfl ?_
  refine r_getI hK d_X1_isSoup_2 fl_RX1_34_1 rfl hk0 ?_
  refine r_imul hK d_X1_isSoup_5 ?_
  refine r_aload_n hK d_X1_isSoup_6 rfl rfl ?_
  refine r_getI hK d_X1_isSoup_7 fl_RX1_37_1 rfl hk0 ?_
  refine r_icmp_le (tgt := 17) hK d_X1_isSoup_10 (by decide) (fun h1 => ?_) (fun h1 => ?_)
  · have hD := if_t hD h1
    refine r_iconst hK d_X1_isSoup_17 ci_0 ?_
    cases hD
    exact r_zret hK (Or.inl rfl) d_X1_isSoup_18
  · have hD := if_f hD h1
    refine r_iconst hK d_X1_isSoup_13 ci_1 ?_
    refine r_goto (tgt := 18) hK d_X1_isSoup_14 (by decide) ?_
    cases hD
    exact r_zret hK (Or.inr rfl) d_X1_isSoup_18
end S_X1_isSoup
theorem d_X1_holdsFast_0 : gd cX1_holdsFast 0 (.aload_n 0) 1 1 := ⟨by decide +kernel, rfl⟩
theorem d_X1_holdsFast_1 : gd cX1_holdsFast 1 (.aload_n 0) 1 2 := ⟨by decide +kernel, rfl⟩
theorem d_X1_holdsFast_2 : gd cX1_holdsFast 2 (.getfield 52) 3 5 := ⟨by decide +kernel, rfl⟩
theorem d_X1_holdsFast_5 : gd cX1_holdsFast 5 (.invokevirtual 91) 3 8 := ⟨by decide +kernel, rfl⟩
theorem d_X1_holdsFast_8 : gd cX1_holdsFast 8 (.ifCond .eq 7) 3 11 := ⟨by decide +kernel, rfl⟩
theorem d_X1_holdsFast_11 : gd cX1_holdsFast 11 (.iconst 0) 1 12 := ⟨by decide +kernel, rfl⟩
theorem d_X1_holdsFast_12 : gd cX1_holdsFast 12 (.goto 17) 3 15 := ⟨by decide +kernel, rfl⟩
theorem d_X1_holdsFast_15 : gd cX1_holdsFast 15 (.bipush 10) 2 17 := ⟨by decide +kernel, rfl⟩
theorem d_X1_holdsFast_17 : gd cX1_holdsFast 17 (.aload_n 0) 1 18 := ⟨by decide +kernel, rfl⟩
theorem d_X1_holdsFast_18 : gd cX1_holdsFast 18 (.getfield 28) 3 21 := ⟨by decide +kernel, rfl⟩
theorem d_X1_holdsFast_21 : gd cX1_holdsFast 21 (.iconst 3) 1 22 := ⟨by decide +kernel, rfl⟩
theorem d_X1_holdsFast_22 : gd cX1_holdsFast 22 (.aload_n 0) 1 23 := ⟨by decide +kernel, rfl⟩
theorem d_X1_holdsFast_23 : gd cX1_holdsFast 23 (.getfield 46) 3 26 := ⟨by decide +kernel, rfl⟩
theorem d_X1_holdsFast_26 : gd cX1_holdsFast 26 .imul 1 27 := ⟨by decide +kernel, rfl⟩
theorem d_X1_holdsFast_27 : gd cX1_holdsFast 27 .iadd 1 28 := ⟨by decide +kernel, rfl⟩
theorem d_X1_holdsFast_28 : gd cX1_holdsFast 28 .imul 1 29 := ⟨by decide +kernel, rfl⟩
theorem d_X1_holdsFast_29 : gd cX1_holdsFast 29 .ireturn 1 30 := ⟨by decide +kernel, rfl⟩
def D_X1_holdsFast (a0 : Nat) (μ : gs_M) : Option (Int32 × gs_M) :=
  bd (D_X1_isSoup a0 (gI μ a0 5) μ) (fun v3 u2 => if v3 = 0 then (some ((10 : Int32) * ((gI u2 a0 9) + ((3 : Int32) * (gI u2 a0 3))), u2)) else (some ((0 : Int32), u2)))
section S_X1_holdsFast
variable {p : Program} {l : Launch} {e : Env} {R : Room} {s : State} {m : MethodId} {args : Array Value} {below : List Frame} {meth : Method} {c : Code} {ad : Nat → Nat} {g : va_G} {tyc : Nat → ClassId}
set_option maxRecDepth 20000 in
theorem C_X1_holdsFast  {a0 : Nat} {μ : gs_M} {r : Int32} {μ2 : gs_M} (hk0 : kd a0 = 1) (hD : D_X1_holdsFast a0 μ = some (r, μ2)) : CALL yX1_holdsFast cX1_holdsFast 1 (some .int) 1 [.ref a0] μ (some (.int r)) μ2 := by
  unfold D_X1_holdsFast at hD
  refine gs_enter mf_X1_holdsFast (Nat.le_of_ble_eq_true rfl) (ls := [.ref a0]) rfl (fun p l e R s m args below meth c ad g tyc hK => ?_)
  have hK : KC p R s m args meth c ad g tyc RX1 cX1_holdsFast 1 (some .int) 1 := hK
  refine r_aload_n hK d_X1_holdsFast_0 rfl rfl ?_
  refine r_aload_n hK d_X1_holdsFast_1 rfl rfl ?_
  refine r_getI hK d_X1_holdsFast_2 fl_RX1_52_1 rfl hk0 ?_
  obtain ⟨v3, u2, e1, hD⟩ := bd_e hD
  refine r_callV (As := [.int (gI μ a0 5)]) (st := []) (stk2 := [.int v3]) hK (C_X1_isSoup hk0 e1) d_X1_holdsFast_5 mf_X1_isSoup ml_RX1_91 im_X1_isSoup rfl se_1_RX1_X1_isSoup hk0 rfl (Nat.le_of_ble_eq_true rfl) (by decide) ⟨Nat.zero_le _, Nat.zero_le _⟩ rfl rfl ?_
  refine r_if_eq (tgt := 15) hK d_X1_holdsFast_8 (by decide) (fun h4 => ?_) (fun h4 => ?_)
  · have hD := if_t hD h4
    refine r_bipush hK d_X1_holdsFast_15 cb_10 ?_
    refine r_aload_n hK d_X1_holdsFast_17 rfl rfl ?_
    refine r_getI hK d_X1_holdsFast_18 fl_RX1_28_1 rfl hk0 ?_
    refine r_iconst hK d_X1_holdsFast_21 ci_3 ?_
    refine r_aload_n hK d_X1_holdsFast_22 rfl rfl ?_
    refine r_getI hK d_X1_holdsFast_23 fl_RX1_46_1 rfl hk0 ?_
    refine r_imul hK d_X1_holdsFast_26 ?_
    refine r_iadd hK d_X1_holdsFast_27 ?_
    refine r_imul hK d_X1_holdsFast_28 ?_
    cases hD
    exact r_iret hK d_X1_holdsFast_29
  · have hD := if_f hD h4
    refine r_iconst hK d_X1_holdsFast_11 ci_0 ?_
    refine r_goto (tgt := 29) hK d_X1_holdsFast_12 (by decide) ?_
    cases hD
    exact r_iret hK d_X1_holdsFast_29
end S_X1_holdsFast
theorem d_X1_sweep_0 : gd cX1_sweep 0 (.iconst 0) 1 1 := ⟨by decide +kernel, rfl⟩
theorem d_X1_sweep_1 : gd cX1_sweep 1 (.istore 4) 2 3 := ⟨by decide +kernel, rfl⟩
theorem d_X1_sweep_3 : gd cX1_sweep 3 (.bipush 100) 2 5 := ⟨by decide +kernel, rfl⟩
theorem d_X1_sweep_5 : gd cX1_sweep 5 (.aload_n 0) 1 6 := ⟨by decide +kernel, rfl⟩
theorem d_X1_sweep_6 : gd cX1_sweep 6 (.getfield 49) 3 9 := ⟨by decide +kernel, rfl⟩
theorem d_X1_sweep_9 : gd cX1_sweep 9 .isub 1 10 := ⟨by decide +kernel, rfl⟩
theorem d_X1_sweep_10 : gd cX1_sweep 10 (.istore 5) 2 12 := ⟨by decide +kernel, rfl⟩
theorem d_X1_sweep_12 : gd cX1_sweep 12 (.aload_n 0) 1 13 := ⟨by decide +kernel, rfl⟩
theorem d_X1_sweep_13 : gd cX1_sweep 13 (.getfield 43) 3 16 := ⟨by decide +kernel, rfl⟩
theorem d_X1_sweep_16 : gd cX1_sweep 16 (.ifCond .le 23) 3 19 := ⟨by decide +kernel, rfl⟩
theorem d_X1_sweep_19 : gd cX1_sweep 19 (.aload_n 0) 1 20 := ⟨by decide +kernel, rfl⟩
theorem d_X1_sweep_20 : gd cX1_sweep 20 (.getfield 15) 3 23 := ⟨by decide +kernel, rfl⟩
theorem d_X1_sweep_23 : gd cX1_sweep 23 (.iconst 2) 1 24 := ⟨by decide +kernel, rfl⟩
theorem d_X1_sweep_24 : gd cX1_sweep 24 .irem 1 25 := ⟨by decide +kernel, rfl⟩
theorem d_X1_sweep_25 : gd cX1_sweep 25 (.ifCond .ne 14) 3 28 := ⟨by decide +kernel, rfl⟩
theorem d_X1_sweep_28 : gd cX1_sweep 28 (.aload_n 0) 1 29 := ⟨by decide +kernel, rfl⟩
theorem d_X1_sweep_29 : gd cX1_sweep 29 (.getfield 15) 3 32 := ⟨by decide +kernel, rfl⟩
theorem d_X1_sweep_32 : gd cX1_sweep 32 (.iconst 2) 1 33 := ⟨by decide +kernel, rfl⟩
theorem d_X1_sweep_33 : gd cX1_sweep 33 .idiv 1 34 := ⟨by decide +kernel, rfl⟩
theorem d_X1_sweep_34 : gd cX1_sweep 34 (.iconst 1) 1 35 := ⟨by decide +kernel, rfl⟩
theorem d_X1_sweep_35 : gd cX1_sweep 35 .isub 1 36 := ⟨by decide +kernel, rfl⟩
theorem d_X1_sweep_36 : gd cX1_sweep 36 (.goto 4) 3 39 := ⟨by decide +kernel, rfl⟩
theorem d_X1_sweep_39 : gd cX1_sweep 39 (.iconst (-1)) 1 40 := ⟨by decide +kernel, rfl⟩
theorem d_X1_sweep_40 : gd cX1_sweep 40 (.istore 6) 2 42 := ⟨by decide +kernel, rfl⟩
theorem d_X1_sweep_42 : gd cX1_sweep 42 (.iconst 0) 1 43 := ⟨by decide +kernel, rfl⟩
theorem d_X1_sweep_43 : gd cX1_sweep 43 (.istore 7) 2 45 := ⟨by decide +kernel, rfl⟩
theorem d_X1_sweep_45 : gd cX1_sweep 45 (.iload 7) 2 47 := ⟨by decide +kernel, rfl⟩
theorem d_X1_sweep_47 : gd cX1_sweep 47 (.iconst 1) 1 48 := ⟨by decide +kernel, rfl⟩
theorem d_X1_sweep_48 : gd cX1_sweep 48 .iadd 1 49 := ⟨by decide +kernel, rfl⟩
theorem d_X1_sweep_49 : gd cX1_sweep 49 (.aload_n 0) 1 50 := ⟨by decide +kernel, rfl⟩
theorem d_X1_sweep_50 : gd cX1_sweep 50 (.getfield 15) 3 53 := ⟨by decide +kernel, rfl⟩
theorem d_X1_sweep_53 : gd cX1_sweep 53 (.if_icmp .ge 229) 3 56 := ⟨by decide +kernel, rfl⟩
theorem d_X1_sweep_56 : gd cX1_sweep 56 (.aload_n 0) 1 57 := ⟨by decide +kernel, rfl⟩
theorem d_X1_sweep_57 : gd cX1_sweep 57 (.getfield 9) 3 60 := ⟨by decide +kernel, rfl⟩
theorem d_X1_sweep_60 : gd cX1_sweep 60 (.iload 7) 2 62 := ⟨by decide +kernel, rfl⟩
theorem d_X1_sweep_62 : gd cX1_sweep 62 .iaload 1 63 := ⟨by decide +kernel, rfl⟩
theorem d_X1_sweep_63 : gd cX1_sweep 63 (.iload 5) 2 65 := ⟨by decide +kernel, rfl⟩
theorem d_X1_sweep_65 : gd cX1_sweep 65 .imul 1 66 := ⟨by decide +kernel, rfl⟩
theorem d_X1_sweep_66 : gd cX1_sweep 66 (.bipush 10) 2 68 := ⟨by decide +kernel, rfl⟩
theorem d_X1_sweep_68 : gd cX1_sweep 68 .idiv 1 69 := ⟨by decide +kernel, rfl⟩
theorem d_X1_sweep_69 : gd cX1_sweep 69 (.aload_n 0) 1 70 := ⟨by decide +kernel, rfl⟩
theorem d_X1_sweep_70 : gd cX1_sweep 70 (.getfield 9) 3 73 := ⟨by decide +kernel, rfl⟩
theorem d_X1_sweep_73 : gd cX1_sweep 73 (.iload 7) 2 75 := ⟨by decide +kernel, rfl⟩
theorem d_X1_sweep_75 : gd cX1_sweep 75 (.iconst 1) 1 76 := ⟨by decide +kernel, rfl⟩
theorem d_X1_sweep_76 : gd cX1_sweep 76 .iadd 1 77 := ⟨by decide +kernel, rfl⟩
theorem d_X1_sweep_77 : gd cX1_sweep 77 .iaload 1 78 := ⟨by decide +kernel, rfl⟩
theorem d_X1_sweep_78 : gd cX1_sweep 78 (.iload 5) 2 80 := ⟨by decide +kernel, rfl⟩
theorem d_X1_sweep_80 : gd cX1_sweep 80 .imul 1 81 := ⟨by decide +kernel, rfl⟩
theorem d_X1_sweep_81 : gd cX1_sweep 81 (.bipush 10) 2 83 := ⟨by decide +kernel, rfl⟩
theorem d_X1_sweep_83 : gd cX1_sweep 83 .idiv 1 84 := ⟨by decide +kernel, rfl⟩
theorem d_X1_sweep_84 : gd cX1_sweep 84 .isub 1 85 := ⟨by decide +kernel, rfl⟩
theorem d_X1_sweep_85 : gd cX1_sweep 85 (.iload_n 1) 1 86 := ⟨by decide +kernel, rfl⟩
theorem d_X1_sweep_86 : gd cX1_sweep 86 .iadd 1 87 := ⟨by decide +kernel, rfl⟩
theorem d_X1_sweep_87 : gd cX1_sweep 87 (.istore 8) 2 89 := ⟨by decide +kernel, rfl⟩
theorem d_X1_sweep_89 : gd cX1_sweep 89 (.iload 8) 2 91 := ⟨by decide +kernel, rfl⟩
theorem d_X1_sweep_91 : gd cX1_sweep 91 (.ifCond .ge 9) 3 94 := ⟨by decide +kernel, rfl⟩
theorem d_X1_sweep_94 : gd cX1_sweep 94 (.iload 8) 2 96 := ⟨by decide +kernel, rfl⟩
theorem d_X1_sweep_96 : gd cX1_sweep 96 .ineg 1 97 := ⟨by decide +kernel, rfl⟩
theorem d_X1_sweep_97 : gd cX1_sweep 97 (.goto 5) 3 100 := ⟨by decide +kernel, rfl⟩
theorem d_X1_sweep_100 : gd cX1_sweep 100 (.iload 8) 2 102 := ⟨by decide +kernel, rfl⟩
theorem d_X1_sweep_102 : gd cX1_sweep 102 (.iload_n 2) 1 103 := ⟨by decide +kernel, rfl⟩
theorem d_X1_sweep_103 : gd cX1_sweep 103 .isub 1 104 := ⟨by decide +kernel, rfl⟩
theorem d_X1_sweep_104 : gd cX1_sweep 104 (.bipush 20) 2 106 := ⟨by decide +kernel, rfl⟩
theorem d_X1_sweep_106 : gd cX1_sweep 106 .idiv 1 107 := ⟨by decide +kernel, rfl⟩
theorem d_X1_sweep_107 : gd cX1_sweep 107 (.istore 9) 2 109 := ⟨by decide +kernel, rfl⟩
theorem d_X1_sweep_109 : gd cX1_sweep 109 (.iload 9) 2 111 := ⟨by decide +kernel, rfl⟩
theorem d_X1_sweep_111 : gd cX1_sweep 111 (.ifCond .gt 6) 3 114 := ⟨by decide +kernel, rfl⟩
theorem d_X1_sweep_114 : gd cX1_sweep 114 (.goto 162) 3 117 := ⟨by decide +kernel, rfl⟩
theorem d_X1_sweep_117 : gd cX1_sweep 117 (.iload 8) 2 119 := ⟨by decide +kernel, rfl⟩
theorem d_X1_sweep_119 : gd cX1_sweep 119 (.ifCond .le 8) 3 122 := ⟨by decide +kernel, rfl⟩
theorem d_X1_sweep_122 : gd cX1_sweep 122 (.iload 7) 2 124 := ⟨by decide +kernel, rfl⟩
theorem d_X1_sweep_124 : gd cX1_sweep 124 (.goto 7) 3 127 := ⟨by decide +kernel, rfl⟩
theorem d_X1_sweep_127 : gd cX1_sweep 127 (.iload 7) 2 129 := ⟨by decide +kernel, rfl⟩
theorem d_X1_sweep_129 : gd cX1_sweep 129 (.iconst 1) 1 130 := ⟨by decide +kernel, rfl⟩
theorem d_X1_sweep_130 : gd cX1_sweep 130 .iadd 1 131 := ⟨by decide +kernel, rfl⟩
theorem d_X1_sweep_131 : gd cX1_sweep 131 (.istore 10) 2 133 := ⟨by decide +kernel, rfl⟩
theorem d_X1_sweep_133 : gd cX1_sweep 133 (.iload 8) 2 135 := ⟨by decide +kernel, rfl⟩
theorem d_X1_sweep_135 : gd cX1_sweep 135 (.ifCond .le 10) 3 138 := ⟨by decide +kernel, rfl⟩
theorem d_X1_sweep_138 : gd cX1_sweep 138 (.iload 7) 2 140 := ⟨by decide +kernel, rfl⟩
theorem d_X1_sweep_140 : gd cX1_sweep 140 (.iconst 1) 1 141 := ⟨by decide +kernel, rfl⟩
theorem d_X1_sweep_141 : gd cX1_sweep 141 .iadd 1 142 := ⟨by decide +kernel, rfl⟩
theorem d_X1_sweep_142 : gd cX1_sweep 142 (.goto 5) 3 145 := ⟨by decide +kernel, rfl⟩
theorem d_X1_sweep_145 : gd cX1_sweep 145 (.iload 7) 2 147 := ⟨by decide +kernel, rfl⟩
theorem d_X1_sweep_147 : gd cX1_sweep 147 (.istore 11) 2 149 := ⟨by decide +kernel, rfl⟩
theorem d_X1_sweep_149 : gd cX1_sweep 149 (.iload 9) 2 151 := ⟨by decide +kernel, rfl⟩
theorem d_X1_sweep_151 : gd cX1_sweep 151 (.iload 7) 2 153 := ⟨by decide +kernel, rfl⟩
theorem d_X1_sweep_153 : gd cX1_sweep 153 (.iload 6) 2 155 := ⟨by decide +kernel, rfl⟩
theorem d_X1_sweep_155 : gd cX1_sweep 155 (.if_icmp .ne 18) 3 158 := ⟨by decide +kernel, rfl⟩
theorem d_X1_sweep_158 : gd cX1_sweep 158 (.aload_n 0) 1 159 := ⟨by decide +kernel, rfl⟩
theorem d_X1_sweep_159 : gd cX1_sweep 159 (.getfield 9) 3 162 := ⟨by decide +kernel, rfl⟩
theorem d_X1_sweep_162 : gd cX1_sweep 162 (.iload 10) 2 164 := ⟨by decide +kernel, rfl⟩
theorem d_X1_sweep_164 : gd cX1_sweep 164 .iaload 1 165 := ⟨by decide +kernel, rfl⟩
theorem d_X1_sweep_165 : gd cX1_sweep 165 (.aload_n 0) 1 166 := ⟨by decide +kernel, rfl⟩
theorem d_X1_sweep_166 : gd cX1_sweep 166 (.getfield 43) 3 169 := ⟨by decide +kernel, rfl⟩
theorem d_X1_sweep_169 : gd cX1_sweep 169 .isub 1 170 := ⟨by decide +kernel, rfl⟩
theorem d_X1_sweep_170 : gd cX1_sweep 170 (.goto 10) 3 173 := ⟨by decide +kernel, rfl⟩
theorem d_X1_sweep_173 : gd cX1_sweep 173 (.aload_n 0) 1 174 := ⟨by decide +kernel, rfl⟩
theorem d_X1_sweep_174 : gd cX1_sweep 174 (.getfield 9) 3 177 := ⟨by decide +kernel, rfl⟩
theorem d_X1_sweep_177 : gd cX1_sweep 177 (.iload 10) 2 179 := ⟨by decide +kernel, rfl⟩
theorem d_X1_sweep_179 : gd cX1_sweep 179 .iaload 1 180 := ⟨by decide +kernel, rfl⟩
theorem d_X1_sweep_180 : gd cX1_sweep 180 (.invokestatic 105) 3 183 := ⟨by decide +kernel, rfl⟩
theorem d_X1_sweep_183 : gd cX1_sweep 183 (.istore 9) 2 185 := ⟨by decide +kernel, rfl⟩
theorem d_X1_sweep_185 : gd cX1_sweep 185 (.iload 9) 2 187 := ⟨by decide +kernel, rfl⟩
theorem d_X1_sweep_187 : gd cX1_sweep 187 (.iload_n 3) 1 188 := ⟨by decide +kernel, rfl⟩
theorem d_X1_sweep_188 : gd cX1_sweep 188 (.aload_n 0) 1 189 := ⟨by decide +kernel, rfl⟩
theorem d_X1_sweep_189 : gd cX1_sweep 189 (.getfield 9) 3 192 := ⟨by decide +kernel, rfl⟩
theorem d_X1_sweep_192 : gd cX1_sweep 192 (.iload 11) 2 194 := ⟨by decide +kernel, rfl⟩
theorem d_X1_sweep_194 : gd cX1_sweep 194 .iaload 1 195 := ⟨by decide +kernel, rfl⟩
theorem d_X1_sweep_195 : gd cX1_sweep 195 .isub 1 196 := ⟨by decide +kernel, rfl⟩
theorem d_X1_sweep_196 : gd cX1_sweep 196 (.invokestatic 105) 3 199 := ⟨by decide +kernel, rfl⟩
theorem d_X1_sweep_199 : gd cX1_sweep 199 (.istore 9) 2 201 := ⟨by decide +kernel, rfl⟩
theorem d_X1_sweep_201 : gd cX1_sweep 201 (.iload 9) 2 203 := ⟨by decide +kernel, rfl⟩
theorem d_X1_sweep_203 : gd cX1_sweep 203 (.ifCond .gt 6) 3 206 := ⟨by decide +kernel, rfl⟩
theorem d_X1_sweep_206 : gd cX1_sweep 206 (.goto 70) 3 209 := ⟨by decide +kernel, rfl⟩
theorem d_X1_sweep_209 : gd cX1_sweep 209 (.aload_n 0) 1 210 := ⟨by decide +kernel, rfl⟩
theorem d_X1_sweep_210 : gd cX1_sweep 210 (.getfield 9) 3 213 := ⟨by decide +kernel, rfl⟩
theorem d_X1_sweep_213 : gd cX1_sweep 213 (.iload 10) 2 215 := ⟨by decide +kernel, rfl⟩
theorem d_X1_sweep_215 : gd cX1_sweep 215 .dup2 1 216 := ⟨by decide +kernel, rfl⟩
theorem d_X1_sweep_216 : gd cX1_sweep 216 .iaload 1 217 := ⟨by decide +kernel, rfl⟩
theorem d_X1_sweep_217 : gd cX1_sweep 217 (.iload 9) 2 219 := ⟨by decide +kernel, rfl⟩
theorem d_X1_sweep_219 : gd cX1_sweep 219 .isub 1 220 := ⟨by decide +kernel, rfl⟩
theorem d_X1_sweep_220 : gd cX1_sweep 220 .iastore 1 221 := ⟨by decide +kernel, rfl⟩
theorem d_X1_sweep_221 : gd cX1_sweep 221 (.aload_n 0) 1 222 := ⟨by decide +kernel, rfl⟩
theorem d_X1_sweep_222 : gd cX1_sweep 222 (.getfield 9) 3 225 := ⟨by decide +kernel, rfl⟩
theorem d_X1_sweep_225 : gd cX1_sweep 225 (.iload 11) 2 227 := ⟨by decide +kernel, rfl⟩
theorem d_X1_sweep_227 : gd cX1_sweep 227 .dup2 1 228 := ⟨by decide +kernel, rfl⟩
theorem d_X1_sweep_228 : gd cX1_sweep 228 .iaload 1 229 := ⟨by decide +kernel, rfl⟩
theorem d_X1_sweep_229 : gd cX1_sweep 229 (.iload 9) 2 231 := ⟨by decide +kernel, rfl⟩
theorem d_X1_sweep_231 : gd cX1_sweep 231 .iadd 1 232 := ⟨by decide +kernel, rfl⟩
theorem d_X1_sweep_232 : gd cX1_sweep 232 .iastore 1 233 := ⟨by decide +kernel, rfl⟩
theorem d_X1_sweep_233 : gd cX1_sweep 233 (.aload_n 0) 1 234 := ⟨by decide +kernel, rfl⟩
theorem d_X1_sweep_234 : gd cX1_sweep 234 .dup 1 235 := ⟨by decide +kernel, rfl⟩
theorem d_X1_sweep_235 : gd cX1_sweep 235 (.getfield 58) 3 238 := ⟨by decide +kernel, rfl⟩
theorem d_X1_sweep_238 : gd cX1_sweep 238 (.iload 8) 2 240 := ⟨by decide +kernel, rfl⟩
theorem d_X1_sweep_240 : gd cX1_sweep 240 (.ifCond .le 8) 3 243 := ⟨by decide +kernel, rfl⟩
theorem d_X1_sweep_243 : gd cX1_sweep 243 (.iload 9) 2 245 := ⟨by decide +kernel, rfl⟩
theorem d_X1_sweep_245 : gd cX1_sweep 245 (.goto 4) 3 248 := ⟨by decide +kernel, rfl⟩
theorem d_X1_sweep_248 : gd cX1_sweep 248 (.iconst 0) 1 249 := ⟨by decide +kernel, rfl⟩
theorem d_X1_sweep_249 : gd cX1_sweep 249 .iadd 1 250 := ⟨by decide +kernel, rfl⟩
theorem d_X1_sweep_250 : gd cX1_sweep 250 (.putfield 58) 3 253 := ⟨by decide +kernel, rfl⟩
theorem d_X1_sweep_253 : gd cX1_sweep 253 (.aload_n 0) 1 254 := ⟨by decide +kernel, rfl⟩
theorem d_X1_sweep_254 : gd cX1_sweep 254 .dup 1 255 := ⟨by decide +kernel, rfl⟩
theorem d_X1_sweep_255 : gd cX1_sweep 255 (.getfield 61) 3 258 := ⟨by decide +kernel, rfl⟩
theorem d_X1_sweep_258 : gd cX1_sweep 258 (.iload 8) 2 260 := ⟨by decide +kernel, rfl⟩
theorem d_X1_sweep_260 : gd cX1_sweep 260 (.ifCond .le 7) 3 263 := ⟨by decide +kernel, rfl⟩
theorem d_X1_sweep_263 : gd cX1_sweep 263 (.iconst 0) 1 264 := ⟨by decide +kernel, rfl⟩
theorem d_X1_sweep_264 : gd cX1_sweep 264 (.goto 5) 3 267 := ⟨by decide +kernel, rfl⟩
theorem d_X1_sweep_267 : gd cX1_sweep 267 (.iload 9) 2 269 := ⟨by decide +kernel, rfl⟩
theorem d_X1_sweep_269 : gd cX1_sweep 269 .iadd 1 270 := ⟨by decide +kernel, rfl⟩
theorem d_X1_sweep_270 : gd cX1_sweep 270 (.putfield 61) 3 273 := ⟨by decide +kernel, rfl⟩
theorem d_X1_sweep_273 : gd cX1_sweep 273 (.iconst 1) 1 274 := ⟨by decide +kernel, rfl⟩
theorem d_X1_sweep_274 : gd cX1_sweep 274 (.istore 4) 2 276 := ⟨by decide +kernel, rfl⟩
theorem d_X1_sweep_276 : gd cX1_sweep 276 (.iinc 7 1) 3 279 := ⟨by decide +kernel, rfl⟩
theorem d_X1_sweep_279 : gd cX1_sweep 279 (.goto (-234)) 3 282 := ⟨by decide +kernel, rfl⟩
theorem d_X1_sweep_282 : gd cX1_sweep 282 (.iload 4) 2 284 := ⟨by decide +kernel, rfl⟩
theorem d_X1_sweep_284 : gd cX1_sweep 284 .ireturn 1 285 := ⟨by decide +kernel, rfl⟩
def B_X1_sweep_269 (q45 : Nat → Int32 → Int32 → Int32 → Int32 → Int32 → Int32 → Int32 → gs_M → Option (Int32 × gs_M)) (a0 : Nat) (x1 : Int32) (x2 : Int32) (x3 : Int32) (x5 : Int32) (x6 : Int32) (x7 : Int32) (as0 : Nat) (xs1 : Int32) (xs2 : Int32) (μ : gs_M) : Option (Int32 × gs_M) :=
  lt1 (sI μ as0 7 (xs1 + xs2)) (fun u1 => q45 a0 x1 x2 x3 (1 : Int32) x5 x6 (x7 + (1 : Int32)) u1)
def B_X1_sweep_249 (q45 : Nat → Int32 → Int32 → Int32 → Int32 → Int32 → Int32 → Int32 → gs_M → Option (Int32 × gs_M)) (a0 : Nat) (x1 : Int32) (x2 : Int32) (x3 : Int32) (x5 : Int32) (x6 : Int32) (x7 : Int32) (x8 : Int32) (x9 : Int32) (as0 : Nat) (xs1 : Int32) (xs2 : Int32) (μ : gs_M) : Option (Int32 × gs_M) :=
  lt1 (sI μ as0 6 (xs1 + xs2)) (fun u1 => if x8 ≤ 0 then (B_X1_sweep_269 q45 a0 x1 x2 x3 x5 x6 x7 a0 (gI u1 a0 7) x9 u1) else (B_X1_sweep_269 q45 a0 x1 x2 x3 x5 x6 x7 a0 (gI u1 a0 7) (0 : Int32) u1))
def B_X1_sweep_180 (q45 : Nat → Int32 → Int32 → Int32 → Int32 → Int32 → Int32 → Int32 → gs_M → Option (Int32 × gs_M)) (a0 : Nat) (x1 : Int32) (x2 : Int32) (x3 : Int32) (x4 : Int32) (x5 : Int32) (x6 : Int32) (x7 : Int32) (x8 : Int32) (x10 : Int32) (x11 : Int32) (xs0 : Int32) (xs1 : Int32) (μ : gs_M) : Option (Int32 × gs_M) :=
  lt1 (if xs1 < xs0 then xs1 else xs0) (fun v1 => ck (inb x11 12) (lt1 (if (x3 - (gI μ (a0 + 1) (Int32.toNatClampNeg x11))) < v1 then (x3 - (gI μ (a0 + 1) (Int32.toNatClampNeg x11))) else v1) (fun v3 => if 0 < v3 then (ck (inb x10 12) (ck (inb x10 12) (lt1 (sI μ (a0 + 1) (Int32.toNatClampNeg x10) ((gI μ (a0 + 1) (Int32.toNatClampNeg x10)) - v3)) (fun u7 => ck (inb x11 12) (ck (inb x11 12) (lt1 (sI u7 (a0 + 1) (Int32.toNatClampNeg x11) ((gI u7 (a0 + 1) (Int32.toNatClampNeg x11)) + v3)) (fun u10 => if x8 ≤ 0 then (B_X1_sweep_249 q45 a0 x1 x2 x3 x5 x6 x7 x8 v3 a0 (gI u10 a0 6) (0 : Int32) u10) else (B_X1_sweep_249 q45 a0 x1 x2 x3 x5 x6 x7 x8 v3 a0 (gI u10 a0 6) v3 u10)))))))) else (q45 a0 x1 x2 x3 x4 x5 x6 (x7 + (1 : Int32)) μ))))
def B_X1_sweep_147 (q45 : Nat → Int32 → Int32 → Int32 → Int32 → Int32 → Int32 → Int32 → gs_M → Option (Int32 × gs_M)) (a0 : Nat) (x1 : Int32) (x2 : Int32) (x3 : Int32) (x4 : Int32) (x5 : Int32) (x6 : Int32) (x7 : Int32) (x8 : Int32) (x9 : Int32) (x10 : Int32) (xs0 : Int32) (μ : gs_M) : Option (Int32 × gs_M) :=
  if x7 = x6 then (ck (inb x10 12) (B_X1_sweep_180 q45 a0 x1 x2 x3 x4 x5 x6 x7 x8 x10 xs0 x9 ((gI μ (a0 + 1) (Int32.toNatClampNeg x10)) - (gI μ a0 2)) μ)) else (ck (inb x10 12) (B_X1_sweep_180 q45 a0 x1 x2 x3 x4 x5 x6 x7 x8 x10 xs0 x9 (gI μ (a0 + 1) (Int32.toNatClampNeg x10)) μ))
def B_X1_sweep_131 (q45 : Nat → Int32 → Int32 → Int32 → Int32 → Int32 → Int32 → Int32 → gs_M → Option (Int32 × gs_M)) (a0 : Nat) (x1 : Int32) (x2 : Int32) (x3 : Int32) (x4 : Int32) (x5 : Int32) (x6 : Int32) (x7 : Int32) (x8 : Int32) (x9 : Int32) (xs0 : Int32) (μ : gs_M) : Option (Int32 × gs_M) :=
  if x8 ≤ 0 then (B_X1_sweep_147 q45 a0 x1 x2 x3 x4 x5 x6 x7 x8 x9 xs0 x7 μ) else (B_X1_sweep_147 q45 a0 x1 x2 x3 x4 x5 x6 x7 x8 x9 xs0 (x7 + (1 : Int32)) μ)
def B_X1_sweep_102 (q45 : Nat → Int32 → Int32 → Int32 → Int32 → Int32 → Int32 → Int32 → gs_M → Option (Int32 × gs_M)) (a0 : Nat) (x1 : Int32) (x2 : Int32) (x3 : Int32) (x4 : Int32) (x5 : Int32) (x6 : Int32) (x7 : Int32) (x8 : Int32) (xs0 : Int32) (μ : gs_M) : Option (Int32 × gs_M) :=
  lt1 ((xs0 - x2) / (20 : Int32)) (fun v1 => if 0 < v1 then (if x8 ≤ 0 then (B_X1_sweep_131 q45 a0 x1 x2 x3 x4 x5 x6 x7 x8 v1 (x7 + (1 : Int32)) μ) else (B_X1_sweep_131 q45 a0 x1 x2 x3 x4 x5 x6 x7 x8 v1 x7 μ)) else (q45 a0 x1 x2 x3 x4 x5 x6 (x7 + (1 : Int32)) μ))
def Bo_X1_sweep_45 (q45 : Nat → Int32 → Int32 → Int32 → Int32 → Int32 → Int32 → Int32 → gs_M → Option (Int32 × gs_M)) (a0 : Nat) (x1 : Int32) (x2 : Int32) (x3 : Int32) (x4 : Int32) (x5 : Int32) (x6 : Int32) (x7 : Int32) (μ : gs_M) : Option (Int32 × gs_M) :=
  if (gI μ a0 1) ≤ (x7 + (1 : Int32)) then (ck (zb x4) (some (x4, μ))) else (ck (inb x7 12) (ck (inb (x7 + (1 : Int32)) 12) (lt1 (((((gI μ (a0 + 1) (Int32.toNatClampNeg x7)) * x5) / (10 : Int32)) - (((gI μ (a0 + 1) (Int32.toNatClampNeg (x7 + (1 : Int32)))) * x5) / (10 : Int32))) + x1) (fun v5 => if 0 ≤ v5 then (B_X1_sweep_102 q45 a0 x1 x2 x3 x4 x5 x6 x7 v5 v5 μ) else (B_X1_sweep_102 q45 a0 x1 x2 x3 x4 x5 x6 x7 v5 (-v5) μ)))))
def L_X1_sweep_45  : Nat → Nat → Int32 → Int32 → Int32 → Int32 → Int32 → Int32 → Int32 → gs_M → Option (Int32 × gs_M)
  | 0 => fun _ _ _ _ _ _ _ _ _ => none
  | n + 1 => fun a0 x1 x2 x3 x4 x5 x6 x7 μ => Bo_X1_sweep_45  (L_X1_sweep_45  n) a0 x1 x2 x3 x4 x5 x6 x7 μ
def B_X1_sweep_40  (a0 : Nat) (x1 : Int32) (x2 : Int32) (x3 : Int32) (x4 : Int32) (x5 : Int32) (xs0 : Int32) (μ : gs_M) : Option (Int32 × gs_M) :=
  L_X1_sweep_45 4096 a0 x1 x2 x3 x4 x5 xs0 (0 : Int32) μ
def B_X1_sweep_39  (a0 : Nat) (x1 : Int32) (x2 : Int32) (x3 : Int32) (x4 : Int32) (x5 : Int32) (μ : gs_M) : Option (Int32 × gs_M) :=
  B_X1_sweep_40 a0 x1 x2 x3 x4 x5 (-1 : Int32) μ
def D_X1_sweep (a0 : Nat) (x1 : Int32) (x2 : Int32) (x3 : Int32) (μ : gs_M) : Option (Int32 × gs_M) :=
  lt1 ((100 : Int32) - (gI μ a0 4)) (fun v1 => if (gI μ a0 2) ≤ 0 then (B_X1_sweep_39 a0 x1 x2 x3 (0 : Int32) v1 μ) else (if ((gI μ a0 1) - (gI μ a0 1) / (2 : Int32) * (2 : Int32)) = 0 then (B_X1_sweep_40 a0 x1 x2 x3 (0 : Int32) v1 (((gI μ a0 1) / (2 : Int32)) - (1 : Int32)) μ) else (B_X1_sweep_39 a0 x1 x2 x3 (0 : Int32) v1 μ)))
section S_X1_sweep
variable {p : Program} {l : Launch} {e : Env} {R : Room} {s : State} {m : MethodId} {args : Array Value} {below : List Frame} {meth : Method} {c : Code} {ad : Nat → Nat} {g : va_G} {tyc : Nat → ClassId}
set_option maxRecDepth 20000 in
theorem T_X1_sweep_269  (hK : KC p R s m args meth c ad g tyc RX1 cX1_sweep 12 (some .boolean) 1) {r : Int32} {μ2 : gs_M} {q45 : Nat → Int32 → Int32 → Int32 → Int32 → Int32 → Int32 → Int32 → gs_M → Option (Int32 × gs_M)} (hq45 : ∀ (a0 : Nat) (x1 : Int32) (x2 : Int32) (x3 : Int32) (x4 : Int32) (x5 : Int32) (x6 : Int32) (x7 : Int32) (μ : gs_M), kd a0 = 1 → q45 a0 x1 x2 x3 x4 x5 x6 x7 μ = some (r, μ2) → WJ p l e R s m args below meth c 0 0 (MQ below (gs_Q ad g tyc (some (.int r)) μ2) args s 0 0 (gs_A ad)) ad g tyc 12 45 [.ref a0, .int x1, .int x2, .int x3, .int x4, .int x5, .int x6, .int x7, gs_J, gs_J, gs_J, gs_J] [] μ) {a0 : Nat} {x1 : Int32} {x2 : Int32} {x3 : Int32} {x5 : Int32} {x6 : Int32} {x7 : Int32} {as0 : Nat} {xs1 : Int32} {xs2 : Int32} {μ : gs_M} (hk0 : kd a0 = 1) (hks0 : kd as0 = 1) (hD : B_X1_sweep_269 q45 a0 x1 x2 x3 x5 x6 x7 as0 xs1 xs2 μ = some (r, μ2)) : WJ p l e R s m args below meth c 0 0 (MQ below (gs_Q ad g tyc (some (.int r)) μ2) args s 0 0 (gs_A ad)) ad g tyc 12 269 [.ref a0, .int x1, .int x2, .int x3, gs_J, .int x5, .int x6, .int x7, gs_J, gs_J, gs_J, gs_J] [.int xs2, .int xs1, .ref as0] μ := by
  unfold B_X1_sweep_269 at hD
  refine r_iadd hK d_X1_sweep_269 ?_
  refine r_putI hK d_X1_sweep_270 fl_RX1_61_1 rfl rfl hks0 ?_
  refine r_ltm hD (fun u1 hD => ?_)
  refine r_iconst hK d_X1_sweep_273 ci_1 ?_
  refine r_istore hK d_X1_sweep_274 (by decide) (ls2 := [.ref a0, .int x1, .int x2, .int x3, .int (1 : Int32), .int x5, .int x6, .int x7, gs_J, gs_J, gs_J, gs_J]) rfl ?_
  refine r_iinc hK d_X1_sweep_276 rfl (v := x7 + (1 : Int32)) (by rw [ci_1]) (by decide) (ls2 := [.ref a0, .int x1, .int x2, .int x3, .int (1 : Int32), .int x5, .int x6, .int (x7 + (1 : Int32)), gs_J, gs_J, gs_J, gs_J]) rfl ?_
  refine r_goto (tgt := 45) hK d_X1_sweep_279 (by decide) ?_
  exact hq45 _ _ _ _ _ _ _ _ _ hk0 hD
set_option maxRecDepth 20000 in
theorem T_X1_sweep_249  (hK : KC p R s m args meth c ad g tyc RX1 cX1_sweep 12 (some .boolean) 1) {r : Int32} {μ2 : gs_M} {q45 : Nat → Int32 → Int32 → Int32 → Int32 → Int32 → Int32 → Int32 → gs_M → Option (Int32 × gs_M)} (hq45 : ∀ (a0 : Nat) (x1 : Int32) (x2 : Int32) (x3 : Int32) (x4 : Int32) (x5 : Int32) (x6 : Int32) (x7 : Int32) (μ : gs_M), kd a0 = 1 → q45 a0 x1 x2 x3 x4 x5 x6 x7 μ = some (r, μ2) → WJ p l e R s m args below meth c 0 0 (MQ below (gs_Q ad g tyc (some (.int r)) μ2) args s 0 0 (gs_A ad)) ad g tyc 12 45 [.ref a0, .int x1, .int x2, .int x3, .int x4, .int x5, .int x6, .int x7, gs_J, gs_J, gs_J, gs_J] [] μ) {a0 : Nat} {x1 : Int32} {x2 : Int32} {x3 : Int32} {x5 : Int32} {x6 : Int32} {x7 : Int32} {x8 : Int32} {x9 : Int32} {as0 : Nat} {xs1 : Int32} {xs2 : Int32} {μ : gs_M} (hk0 : kd a0 = 1) (hks0 : kd as0 = 1) (hD : B_X1_sweep_249 q45 a0 x1 x2 x3 x5 x6 x7 x8 x9 as0 xs1 xs2 μ = some (r, μ2)) : WJ p l e R s m args below meth c 0 0 (MQ below (gs_Q ad g tyc (some (.int r)) μ2) args s 0 0 (gs_A ad)) ad g tyc 12 249 [.ref a0, .int x1, .int x2, .int x3, gs_J, .int x5, .int x6, .int x7, .int x8, .int x9, gs_J, gs_J] [.int xs2, .int xs1, .ref as0] μ := by
  unfold B_X1_sweep_249 at hD
  refine r_iadd hK d_X1_sweep_249 ?_
  refine r_putI hK d_X1_sweep_250 fl_RX1_58_1 rfl rfl hks0 ?_
  refine r_ltm hD (fun u1 hD => ?_)
  refine r_aload_n hK d_X1_sweep_253 rfl rfl ?_
  refine r_dup hK d_X1_sweep_254 rfl ?_
  refine r_getI hK d_X1_sweep_255 fl_RX1_61_1 rfl hk0 ?_
  refine r_iload hK d_X1_sweep_258 rfl ?_
  refine r_if_le (tgt := 267) hK d_X1_sweep_260 (by decide) (fun h2 => ?_) (fun h2 => ?_)
  · have hD := if_t hD h2
    refine r_iload hK d_X1_sweep_267 rfl ?_
    refine r_junk [true, true, true, true, false, true, true, true, false, false, false, false] (ls2 := [.ref a0, .int x1, .int x2, .int x3, gs_J, .int x5, .int x6, .int x7, gs_J, gs_J, gs_J, gs_J]) rfl ?_
    exact T_X1_sweep_269 hK hq45 hk0 hk0 hD
  · have hD := if_f hD h2
    refine r_iconst hK d_X1_sweep_263 ci_0 ?_
    refine r_goto (tgt := 269) hK d_X1_sweep_264 (by decide) ?_
    refine r_junk [true, true, true, true, false, true, true, true, false, false, false, false] (ls2 := [.ref a0, .int x1, .int x2, .int x3, gs_J, .int x5, .int x6, .int x7, gs_J, gs_J, gs_J, gs_J]) rfl ?_
    exact T_X1_sweep_269 hK hq45 hk0 hk0 hD
set_option maxRecDepth 20000 in
theorem T_X1_sweep_180  (hK : KC p R s m args meth c ad g tyc RX1 cX1_sweep 12 (some .boolean) 1) {r : Int32} {μ2 : gs_M} {q45 : Nat → Int32 → Int32 → Int32 → Int32 → Int32 → Int32 → Int32 → gs_M → Option (Int32 × gs_M)} (hq45 : ∀ (a0 : Nat) (x1 : Int32) (x2 : Int32) (x3 : Int32) (x4 : Int32) (x5 : Int32) (x6 : Int32) (x7 : Int32) (μ : gs_M), kd a0 = 1 → q45 a0 x1 x2 x3 x4 x5 x6 x7 μ = some (r, μ2) → WJ p l e R s m args below meth c 0 0 (MQ below (gs_Q ad g tyc (some (.int r)) μ2) args s 0 0 (gs_A ad)) ad g tyc 12 45 [.ref a0, .int x1, .int x2, .int x3, .int x4, .int x5, .int x6, .int x7, gs_J, gs_J, gs_J, gs_J] [] μ) {a0 : Nat} {x1 : Int32} {x2 : Int32} {x3 : Int32} {x4 : Int32} {x5 : Int32} {x6 : Int32} {x7 : Int32} {x8 : Int32} {x10 : Int32} {x11 : Int32} {xs0 : Int32} {xs1 : Int32} {μ : gs_M} (hk0 : kd a0 = 1) (hD : B_X1_sweep_180 q45 a0 x1 x2 x3 x4 x5 x6 x7 x8 x10 x11 xs0 xs1 μ = some (r, μ2)) : WJ p l e R s m args below meth c 0 0 (MQ below (gs_Q ad g tyc (some (.int r)) μ2) args s 0 0 (gs_A ad)) ad g tyc 12 180 [.ref a0, .int x1, .int x2, .int x3, .int x4, .int x5, .int x6, .int x7, .int x8, gs_J, .int x10, .int x11] [.int xs1, .int xs0] μ := by
  unfold B_X1_sweep_180 at hD
  refine r_mmin hK d_X1_sweep_180 mm_RX1_105 ms_min mi_0 mc_min (Nat.le_of_ble_eq_true rfl) (by decide) ⟨Nat.zero_le _, Nat.zero_le _⟩ ?_
  refine r_lti hD (fun v1 hD => ?_)
  refine r_istore hK d_X1_sweep_183 (by decide) (ls2 := [.ref a0, .int x1, .int x2, .int x3, .int x4, .int x5, .int x6, .int x7, .int x8, .int v1, .int x10, .int x11]) rfl ?_
  refine r_iload hK d_X1_sweep_185 rfl ?_
  refine r_iload_n hK d_X1_sweep_187 rfl rfl ?_
  refine r_aload_n hK d_X1_sweep_188 rfl rfl ?_
  refine r_getR hK d_X1_sweep_189 fl_RX1_9_1 rfl hk0 ?_
  refine r_ref (b := (a0 + 1)) ((ly_hold _ hk0).1) ?_
  refine r_iload hK d_X1_sweep_192 rfl ?_
  obtain ⟨h2, hD⟩ := ck_e hD
  refine r_iald hK d_X1_sweep_194 ((ly_hold _ hk0).2.1) ((ly_hold _ hk0).2.2) (inb_in h2) ?_
  refine r_isub hK d_X1_sweep_195 ?_
  refine r_mmin hK d_X1_sweep_196 mm_RX1_105 ms_min mi_0 mc_min (Nat.le_of_ble_eq_true rfl) (by decide) ⟨Nat.zero_le _, Nat.zero_le _⟩ ?_
  refine r_lti hD (fun v3 hD => ?_)
  refine r_istore hK d_X1_sweep_199 (by decide) (ls2 := [.ref a0, .int x1, .int x2, .int x3, .int x4, .int x5, .int x6, .int x7, .int x8, .int v3, .int x10, .int x11]) rfl ?_
  refine r_iload hK d_X1_sweep_201 rfl ?_
  refine r_if_gt (tgt := 209) hK d_X1_sweep_203 (by decide) (fun h4 => ?_) (fun h4 => ?_)
  · have hD := if_t hD h4
    refine r_aload_n hK d_X1_sweep_209 rfl rfl ?_
    refine r_getR hK d_X1_sweep_210 fl_RX1_9_1 rfl hk0 ?_
    refine r_ref (b := (a0 + 1)) ((ly_hold _ hk0).1) ?_
    refine r_iload hK d_X1_sweep_213 rfl ?_
    refine r_dup2 hK d_X1_sweep_215 rfl rfl ?_
    obtain ⟨h5, hD⟩ := ck_e hD
    refine r_iald hK d_X1_sweep_216 ((ly_hold _ hk0).2.1) ((ly_hold _ hk0).2.2) (inb_in h5) ?_
    refine r_iload hK d_X1_sweep_217 rfl ?_
    refine r_isub hK d_X1_sweep_219 ?_
    obtain ⟨h6, hD⟩ := ck_e hD
    refine r_iast hK d_X1_sweep_220 ((ly_hold _ hk0).2.1) ((ly_hold _ hk0).2.2) (inb_in h6) ?_
    refine r_ltm hD (fun u7 hD => ?_)
    refine r_aload_n hK d_X1_sweep_221 rfl rfl ?_
    refine r_getR hK d_X1_sweep_222 fl_RX1_9_1 rfl hk0 ?_
    refine r_ref (b := (a0 + 1)) ((ly_hold _ hk0).1) ?_
    refine r_iload hK d_X1_sweep_225 rfl ?_
    refine r_dup2 hK d_X1_sweep_227 rfl rfl ?_
    obtain ⟨h8, hD⟩ := ck_e hD
    refine r_iald hK d_X1_sweep_228 ((ly_hold _ hk0).2.1) ((ly_hold _ hk0).2.2) (inb_in h8) ?_
    refine r_iload hK d_X1_sweep_229 rfl ?_
    refine r_iadd hK d_X1_sweep_231 ?_
    obtain ⟨h9, hD⟩ := ck_e hD
    refine r_iast hK d_X1_sweep_232 ((ly_hold _ hk0).2.1) ((ly_hold _ hk0).2.2) (inb_in h9) ?_
    refine r_ltm hD (fun u10 hD => ?_)
    refine r_aload_n hK d_X1_sweep_233 rfl rfl ?_
    refine r_dup hK d_X1_sweep_234 rfl ?_
    refine r_getI hK d_X1_sweep_235 fl_RX1_58_1 rfl hk0 ?_
    refine r_iload hK d_X1_sweep_238 rfl ?_
    refine r_if_le (tgt := 248) hK d_X1_sweep_240 (by decide) (fun h11 => ?_) (fun h11 => ?_)
    · have hD := if_t hD h11
      refine r_iconst hK d_X1_sweep_248 ci_0 ?_
      refine r_junk [true, true, true, true, false, true, true, true, true, true, false, false] (ls2 := [.ref a0, .int x1, .int x2, .int x3, gs_J, .int x5, .int x6, .int x7, .int x8, .int v3, gs_J, gs_J]) rfl ?_
      exact T_X1_sweep_249 hK hq45 hk0 hk0 hD
    · have hD := if_f hD h11
      refine r_iload hK d_X1_sweep_243 rfl ?_
      refine r_goto (tgt := 249) hK d_X1_sweep_245 (by decide) ?_
      refine r_junk [true, true, true, true, false, true, true, true, true, true, false, false] (ls2 := [.ref a0, .int x1, .int x2, .int x3, gs_J, .int x5, .int x6, .int x7, .int x8, .int v3, gs_J, gs_J]) rfl ?_
      exact T_X1_sweep_249 hK hq45 hk0 hk0 hD
  · have hD := if_f hD h4
    refine r_goto (tgt := 276) hK d_X1_sweep_206 (by decide) ?_
    refine r_iinc hK d_X1_sweep_276 rfl (v := x7 + (1 : Int32)) (by rw [ci_1]) (by decide) (ls2 := [.ref a0, .int x1, .int x2, .int x3, .int x4, .int x5, .int x6, .int (x7 + (1 : Int32)), .int x8, .int v3, .int x10, .int x11]) rfl ?_
    refine r_goto (tgt := 45) hK d_X1_sweep_279 (by decide) ?_
    refine r_junk [true, true, true, true, true, true, true, true, false, false, false, false] (ls2 := [.ref a0, .int x1, .int x2, .int x3, .int x4, .int x5, .int x6, .int (x7 + (1 : Int32)), gs_J, gs_J, gs_J, gs_J]) rfl ?_
    exact hq45 _ _ _ _ _ _ _ _ _ hk0 hD
set_option maxRecDepth 20000 in
theorem T_X1_sweep_147  (hK : KC p R s m args meth c ad g tyc RX1 cX1_sweep 12 (some .boolean) 1) {r : Int32} {μ2 : gs_M} {q45 : Nat → Int32 → Int32 → Int32 → Int32 → Int32 → Int32 → Int32 → gs_M → Option (Int32 × gs_M)} (hq45 : ∀ (a0 : Nat) (x1 : Int32) (x2 : Int32) (x3 : Int32) (x4 : Int32) (x5 : Int32) (x6 : Int32) (x7 : Int32) (μ : gs_M), kd a0 = 1 → q45 a0 x1 x2 x3 x4 x5 x6 x7 μ = some (r, μ2) → WJ p l e R s m args below meth c 0 0 (MQ below (gs_Q ad g tyc (some (.int r)) μ2) args s 0 0 (gs_A ad)) ad g tyc 12 45 [.ref a0, .int x1, .int x2, .int x3, .int x4, .int x5, .int x6, .int x7, gs_J, gs_J, gs_J, gs_J] [] μ) {a0 : Nat} {x1 : Int32} {x2 : Int32} {x3 : Int32} {x4 : Int32} {x5 : Int32} {x6 : Int32} {x7 : Int32} {x8 : Int32} {x9 : Int32} {x10 : Int32} {xs0 : Int32} {μ : gs_M} (hk0 : kd a0 = 1) (hD : B_X1_sweep_147 q45 a0 x1 x2 x3 x4 x5 x6 x7 x8 x9 x10 xs0 μ = some (r, μ2)) : WJ p l e R s m args below meth c 0 0 (MQ below (gs_Q ad g tyc (some (.int r)) μ2) args s 0 0 (gs_A ad)) ad g tyc 12 147 [.ref a0, .int x1, .int x2, .int x3, .int x4, .int x5, .int x6, .int x7, .int x8, .int x9, .int x10, gs_J] [.int xs0] μ := by
  unfold B_X1_sweep_147 at hD
  refine r_istore hK d_X1_sweep_147 (by decide) (ls2 := [.ref a0, .int x1, .int x2, .int x3, .int x4, .int x5, .int x6, .int x7, .int x8, .int x9, .int x10, .int xs0]) rfl ?_
  refine r_iload hK d_X1_sweep_149 rfl ?_
  refine r_iload hK d_X1_sweep_151 rfl ?_
  refine r_iload hK d_X1_sweep_153 rfl ?_
  refine r_icmp_ne (tgt := 173) hK d_X1_sweep_155 (by decide) (fun h1 => ?_) (fun h1 => ?_)
  · have hD := if_f hD h1
    refine r_aload_n hK d_X1_sweep_173 rfl rfl ?_
    refine r_getR hK d_X1_sweep_174 fl_RX1_9_1 rfl hk0 ?_
    refine r_ref (b := (a0 + 1)) ((ly_hold _ hk0).1) ?_
    refine r_iload hK d_X1_sweep_177 rfl ?_
    obtain ⟨h2, hD⟩ := ck_e hD
    refine r_iald hK d_X1_sweep_179 ((ly_hold _ hk0).2.1) ((ly_hold _ hk0).2.2) (inb_in h2) ?_
    refine r_junk [true, true, true, true, true, true, true, true, true, false, true, true] (ls2 := [.ref a0, .int x1, .int x2, .int x3, .int x4, .int x5, .int x6, .int x7, .int x8, gs_J, .int x10, .int xs0]) rfl ?_
    exact T_X1_sweep_180 hK hq45 hk0 hD
  · have hD := if_t hD h1
    refine r_aload_n hK d_X1_sweep_158 rfl rfl ?_
    refine r_getR hK d_X1_sweep_159 fl_RX1_9_1 rfl hk0 ?_
    refine r_ref (b := (a0 + 1)) ((ly_hold _ hk0).1) ?_
    refine r_iload hK d_X1_sweep_162 rfl ?_
    obtain ⟨h3, hD⟩ := ck_e hD
    refine r_iald hK d_X1_sweep_164 ((ly_hold _ hk0).2.1) ((ly_hold _ hk0).2.2) (inb_in h3) ?_
    refine r_aload_n hK d_X1_sweep_165 rfl rfl ?_
    refine r_getI hK d_X1_sweep_166 fl_RX1_43_1 rfl hk0 ?_
    refine r_isub hK d_X1_sweep_169 ?_
    refine r_goto (tgt := 180) hK d_X1_sweep_170 (by decide) ?_
    refine r_junk [true, true, true, true, true, true, true, true, true, false, true, true] (ls2 := [.ref a0, .int x1, .int x2, .int x3, .int x4, .int x5, .int x6, .int x7, .int x8, gs_J, .int x10, .int xs0]) rfl ?_
    exact T_X1_sweep_180 hK hq45 hk0 hD
set_option maxRecDepth 20000 in
theorem T_X1_sweep_131  (hK : KC p R s m args meth c ad g tyc RX1 cX1_sweep 12 (some .boolean) 1) {r : Int32} {μ2 : gs_M} {q45 : Nat → Int32 → Int32 → Int32 → Int32 → Int32 → Int32 → Int32 → gs_M → Option (Int32 × gs_M)} (hq45 : ∀ (a0 : Nat) (x1 : Int32) (x2 : Int32) (x3 : Int32) (x4 : Int32) (x5 : Int32) (x6 : Int32) (x7 : Int32) (μ : gs_M), kd a0 = 1 → q45 a0 x1 x2 x3 x4 x5 x6 x7 μ = some (r, μ2) → WJ p l e R s m args below meth c 0 0 (MQ below (gs_Q ad g tyc (some (.int r)) μ2) args s 0 0 (gs_A ad)) ad g tyc 12 45 [.ref a0, .int x1, .int x2, .int x3, .int x4, .int x5, .int x6, .int x7, gs_J, gs_J, gs_J, gs_J] [] μ) {a0 : Nat} {x1 : Int32} {x2 : Int32} {x3 : Int32} {x4 : Int32} {x5 : Int32} {x6 : Int32} {x7 : Int32} {x8 : Int32} {x9 : Int32} {xs0 : Int32} {μ : gs_M} (hk0 : kd a0 = 1) (hD : B_X1_sweep_131 q45 a0 x1 x2 x3 x4 x5 x6 x7 x8 x9 xs0 μ = some (r, μ2)) : WJ p l e R s m args below meth c 0 0 (MQ below (gs_Q ad g tyc (some (.int r)) μ2) args s 0 0 (gs_A ad)) ad g tyc 12 131 [.ref a0, .int x1, .int x2, .int x3, .int x4, .int x5, .int x6, .int x7, .int x8, .int x9, gs_J, gs_J] [.int xs0] μ := by
  unfold B_X1_sweep_131 at hD
  refine r_istore hK d_X1_sweep_131 (by decide) (ls2 := [.ref a0, .int x1, .int x2, .int x3, .int x4, .int x5, .int x6, .int x7, .int x8, .int x9, .int xs0, gs_J]) rfl ?_
  refine r_iload hK d_X1_sweep_133 rfl ?_
  refine r_if_le (tgt := 145) hK d_X1_sweep_135 (by decide) (fun h1 => ?_) (fun h1 => ?_)
  · have hD := if_t hD h1
    refine r_iload hK d_X1_sweep_145 rfl ?_
    exact T_X1_sweep_147 hK hq45 hk0 hD
  · have hD := if_f hD h1
    refine r_iload hK d_X1_sweep_138 rfl ?_
    refine r_iconst hK d_X1_sweep_140 ci_1 ?_
    refine r_iadd hK d_X1_sweep_141 ?_
    refine r_goto (tgt := 147) hK d_X1_sweep_142 (by decide) ?_
    exact T_X1_sweep_147 hK hq45 hk0 hD
set_option maxRecDepth 20000 in
theorem T_X1_sweep_102  (hK : KC p R s m args meth c ad g tyc RX1 cX1_sweep 12 (some .boolean) 1) {r : Int32} {μ2 : gs_M} {q45 : Nat → Int32 → Int32 → Int32 → Int32 → Int32 → Int32 → Int32 → gs_M → Option (Int32 × gs_M)} (hq45 : ∀ (a0 : Nat) (x1 : Int32) (x2 : Int32) (x3 : Int32) (x4 : Int32) (x5 : Int32) (x6 : Int32) (x7 : Int32) (μ : gs_M), kd a0 = 1 → q45 a0 x1 x2 x3 x4 x5 x6 x7 μ = some (r, μ2) → WJ p l e R s m args below meth c 0 0 (MQ below (gs_Q ad g tyc (some (.int r)) μ2) args s 0 0 (gs_A ad)) ad g tyc 12 45 [.ref a0, .int x1, .int x2, .int x3, .int x4, .int x5, .int x6, .int x7, gs_J, gs_J, gs_J, gs_J] [] μ) {a0 : Nat} {x1 : Int32} {x2 : Int32} {x3 : Int32} {x4 : Int32} {x5 : Int32} {x6 : Int32} {x7 : Int32} {x8 : Int32} {xs0 : Int32} {μ : gs_M} (hk0 : kd a0 = 1) (hD : B_X1_sweep_102 q45 a0 x1 x2 x3 x4 x5 x6 x7 x8 xs0 μ = some (r, μ2)) : WJ p l e R s m args below meth c 0 0 (MQ below (gs_Q ad g tyc (some (.int r)) μ2) args s 0 0 (gs_A ad)) ad g tyc 12 102 [.ref a0, .int x1, .int x2, .int x3, .int x4, .int x5, .int x6, .int x7, .int x8, gs_J, gs_J, gs_J] [.int xs0] μ := by
  unfold B_X1_sweep_102 at hD
  refine r_iload_n hK d_X1_sweep_102 rfl rfl ?_
  refine r_isub hK d_X1_sweep_103 ?_
  refine r_bipush hK d_X1_sweep_104 cb_20 ?_
  refine r_idiv hK d_X1_sweep_106 (by decide) ?_
  refine r_lti hD (fun v1 hD => ?_)
  refine r_istore hK d_X1_sweep_107 (by decide) (ls2 := [.ref a0, .int x1, .int x2, .int x3, .int x4, .int x5, .int x6, .int x7, .int x8, .int v1, gs_J, gs_J]) rfl ?_
  refine r_iload hK d_X1_sweep_109 rfl ?_
  refine r_if_gt (tgt := 117) hK d_X1_sweep_111 (by decide) (fun h2 => ?_) (fun h2 => ?_)
  · have hD := if_t hD h2
    refine r_iload hK d_X1_sweep_117 rfl ?_
    refine r_if_le (tgt := 127) hK d_X1_sweep_119 (by decide) (fun h3 => ?_) (fun h3 => ?_)
    · have hD := if_t hD h3
      refine r_iload hK d_X1_sweep_127 rfl ?_
      refine r_iconst hK d_X1_sweep_129 ci_1 ?_
      refine r_iadd hK d_X1_sweep_130 ?_
      exact T_X1_sweep_131 hK hq45 hk0 hD
    · have hD := if_f hD h3
      refine r_iload hK d_X1_sweep_122 rfl ?_
      refine r_goto (tgt := 131) hK d_X1_sweep_124 (by decide) ?_
      exact T_X1_sweep_131 hK hq45 hk0 hD
  · have hD := if_f hD h2
    refine r_goto (tgt := 276) hK d_X1_sweep_114 (by decide) ?_
    refine r_iinc hK d_X1_sweep_276 rfl (v := x7 + (1 : Int32)) (by rw [ci_1]) (by decide) (ls2 := [.ref a0, .int x1, .int x2, .int x3, .int x4, .int x5, .int x6, .int (x7 + (1 : Int32)), .int x8, .int v1, gs_J, gs_J]) rfl ?_
    refine r_goto (tgt := 45) hK d_X1_sweep_279 (by decide) ?_
    refine r_junk [true, true, true, true, true, true, true, true, false, false, false, false] (ls2 := [.ref a0, .int x1, .int x2, .int x3, .int x4, .int x5, .int x6, .int (x7 + (1 : Int32)), gs_J, gs_J, gs_J, gs_J]) rfl ?_
    exact hq45 _ _ _ _ _ _ _ _ _ hk0 hD
set_option maxRecDepth 20000 in
theorem To_X1_sweep_45  (hK : KC p R s m args meth c ad g tyc RX1 cX1_sweep 12 (some .boolean) 1) {r : Int32} {μ2 : gs_M} {q45 : Nat → Int32 → Int32 → Int32 → Int32 → Int32 → Int32 → Int32 → gs_M → Option (Int32 × gs_M)} (hq45 : ∀ (a0 : Nat) (x1 : Int32) (x2 : Int32) (x3 : Int32) (x4 : Int32) (x5 : Int32) (x6 : Int32) (x7 : Int32) (μ : gs_M), kd a0 = 1 → q45 a0 x1 x2 x3 x4 x5 x6 x7 μ = some (r, μ2) → WJ p l e R s m args below meth c 0 0 (MQ below (gs_Q ad g tyc (some (.int r)) μ2) args s 0 0 (gs_A ad)) ad g tyc 12 45 [.ref a0, .int x1, .int x2, .int x3, .int x4, .int x5, .int x6, .int x7, gs_J, gs_J, gs_J, gs_J] [] μ) {a0 : Nat} {x1 : Int32} {x2 : Int32} {x3 : Int32} {x4 : Int32} {x5 : Int32} {x6 : Int32} {x7 : Int32} {μ : gs_M} (hk0 : kd a0 = 1) (hD : Bo_X1_sweep_45 q45 a0 x1 x2 x3 x4 x5 x6 x7 μ = some (r, μ2)) : WJ p l e R s m args below meth c 0 0 (MQ below (gs_Q ad g tyc (some (.int r)) μ2) args s 0 0 (gs_A ad)) ad g tyc 12 45 [.ref a0, .int x1, .int x2, .int x3, .int x4, .int x5, .int x6, .int x7, gs_J, gs_J, gs_J, gs_J] [] μ := by
  unfold Bo_X1_sweep_45 at hD
  refine r_iload hK d_X1_sweep_45 rfl ?_
  refine r_iconst hK d_X1_sweep_47 ci_1 ?_
  refine r_iadd hK d_X1_sweep_48 ?_
  refine r_aload_n hK d_X1_sweep_49 rfl rfl ?_
  refine r_getI hK d_X1_sweep_50 fl_RX1_15_1 rfl hk0 ?_
  refine r_icmp_ge (tgt := 282) hK d_X1_sweep_53 (by decide) (fun h1 => ?_) (fun h1 => ?_)
  · have hD := if_t hD h1
    refine r_iload hK d_X1_sweep_282 rfl ?_
    obtain ⟨h2, hD⟩ := ck_e hD
    cases hD
    exact r_zret hK (zb_e h2) d_X1_sweep_284
  · have hD := if_f hD h1
    refine r_aload_n hK d_X1_sweep_56 rfl rfl ?_
    refine r_getR hK d_X1_sweep_57 fl_RX1_9_1 rfl hk0 ?_
    refine r_ref (b := (a0 + 1)) ((ly_hold _ hk0).1) ?_
    refine r_iload hK d_X1_sweep_60 rfl ?_
    obtain ⟨h3, hD⟩ := ck_e hD
    refine r_iald hK d_X1_sweep_62 ((ly_hold _ hk0).2.1) ((ly_hold _ hk0).2.2) (inb_in h3) ?_
    refine r_iload hK d_X1_sweep_63 rfl ?_
    refine r_imul hK d_X1_sweep_65 ?_
    refine r_bipush hK d_X1_sweep_66 cb_10 ?_
    refine r_idiv hK d_X1_sweep_68 (by decide) ?_
    refine r_aload_n hK d_X1_sweep_69 rfl rfl ?_
    refine r_getR hK d_X1_sweep_70 fl_RX1_9_1 rfl hk0 ?_
    refine r_ref (b := (a0 + 1)) ((ly_hold _ hk0).1) ?_
    refine r_iload hK d_X1_sweep_73 rfl ?_
    refine r_iconst hK d_X1_sweep_75 ci_1 ?_
    refine r_iadd hK d_X1_sweep_76 ?_
    obtain ⟨h4, hD⟩ := ck_e hD
    refine r_iald hK d_X1_sweep_77 ((ly_hold _ hk0).2.1) ((ly_hold _ hk0).2.2) (inb_in h4) ?_
    refine r_iload hK d_X1_sweep_78 rfl ?_
    refine r_imul hK d_X1_sweep_80 ?_
    refine r_bipush hK d_X1_sweep_81 cb_10 ?_
    refine r_idiv hK d_X1_sweep_83 (by decide) ?_
    refine r_isub hK d_X1_sweep_84 ?_
    refine r_iload_n hK d_X1_sweep_85 rfl rfl ?_
    refine r_iadd hK d_X1_sweep_86 ?_
    refine r_lti hD (fun v5 hD => ?_)
    refine r_istore hK d_X1_sweep_87 (by decide) (ls2 := [.ref a0, .int x1, .int x2, .int x3, .int x4, .int x5, .int x6, .int x7, .int v5, gs_J, gs_J, gs_J]) rfl ?_
    refine r_iload hK d_X1_sweep_89 rfl ?_
    refine r_if_ge (tgt := 100) hK d_X1_sweep_91 (by decide) (fun h6 => ?_) (fun h6 => ?_)
    · have hD := if_t hD h6
      refine r_iload hK d_X1_sweep_100 rfl ?_
      exact T_X1_sweep_102 hK hq45 hk0 hD
    · have hD := if_f hD h6
      refine r_iload hK d_X1_sweep_94 rfl ?_
      refine r_ineg hK d_X1_sweep_96 ?_
      refine r_goto (tgt := 102) hK d_X1_sweep_97 (by decide) ?_
      exact T_X1_sweep_102 hK hq45 hk0 hD
set_option maxRecDepth 20000 in
theorem TL_X1_sweep_45  (hK : KC p R s m args meth c ad g tyc RX1 cX1_sweep 12 (some .boolean) 1) {r : Int32} {μ2 : gs_M}   : ∀ (n : Nat) (a0 : Nat) (x1 : Int32) (x2 : Int32) (x3 : Int32) (x4 : Int32) (x5 : Int32) (x6 : Int32) (x7 : Int32) (μ : gs_M), kd a0 = 1 → L_X1_sweep_45  n a0 x1 x2 x3 x4 x5 x6 x7 μ = some (r, μ2) → WJ p l e R s m args below meth c 0 0 (MQ below (gs_Q ad g tyc (some (.int r)) μ2) args s 0 0 (gs_A ad)) ad g tyc 12 45 [.ref a0, .int x1, .int x2, .int x3, .int x4, .int x5, .int x6, .int x7, gs_J, gs_J, gs_J, gs_J] [] μ := by
  intro n
  induction n with
  | zero => intro a0 x1 x2 x3 x4 x5 x6 x7 μ hk0 hD; cases hD
  | succ n ih => intro a0 x1 x2 x3 x4 x5 x6 x7 μ hk0 hD; exact To_X1_sweep_45 hK  ih hk0 hD
set_option maxRecDepth 20000 in
theorem T_X1_sweep_40  (hK : KC p R s m args meth c ad g tyc RX1 cX1_sweep 12 (some .boolean) 1) {r : Int32} {μ2 : gs_M}   {a0 : Nat} {x1 : Int32} {x2 : Int32} {x3 : Int32} {x4 : Int32} {x5 : Int32} {xs0 : Int32} {μ : gs_M} (hk0 : kd a0 = 1) (hD : B_X1_sweep_40  a0 x1 x2 x3 x4 x5 xs0 μ = some (r, μ2)) : WJ p l e R s m args below meth c 0 0 (MQ below (gs_Q ad g tyc (some (.int r)) μ2) args s 0 0 (gs_A ad)) ad g tyc 12 40 [.ref a0, .int x1, .int x2, .int x3, .int x4, .int x5, gs_J, gs_J, gs_J, gs_J, gs_J, gs_J] [.int xs0] μ := by
  unfold B_X1_sweep_40 at hD
  refine r_istore hK d_X1_sweep_40 (by decide) (ls2 := [.ref a0, .int x1, .int x2, .int x3, .int x4, .int x5, .int xs0, gs_J, gs_J, gs_J, gs_J, gs_J]) rfl ?_
  refine r_iconst hK d_X1_sweep_42 ci_0 ?_
  refine r_istore hK d_X1_sweep_43 (by decide) (ls2 := [.ref a0, .int x1, .int x2, .int x3, .int x4, .int x5, .int xs0, .int (0 : Int32), gs_J, gs_J, gs_J, gs_J]) rfl ?_
  exact TL_X1_sweep_45 hK  _ _ _ _ _ _ _ _ _ _ hk0 hD
set_option maxRecDepth 20000 in
theorem T_X1_sweep_39  (hK : KC p R s m args meth c ad g tyc RX1 cX1_sweep 12 (some .boolean) 1) {r : Int32} {μ2 : gs_M}   {a0 : Nat} {x1 : Int32} {x2 : Int32} {x3 : Int32} {x4 : Int32} {x5 : Int32} {μ : gs_M} (hk0 : kd a0 = 1) (hD : B_X1_sweep_39  a0 x1 x2 x3 x4 x5 μ = some (r, μ2)) : WJ p l e R s m args below meth c 0 0 (MQ below (gs_Q ad g tyc (some (.int r)) μ2) args s 0 0 (gs_A ad)) ad g tyc 12 39 [.ref a0, .int x1, .int x2, .int x3, .int x4, .int x5, gs_J, gs_J, gs_J, gs_J, gs_J, gs_J] [] μ := by
  unfold B_X1_sweep_39 at hD
  refine r_iconst hK d_X1_sweep_39 ci_m1 ?_
  exact T_X1_sweep_40 hK  hk0 hD
set_option maxRecDepth 20000 in
theorem C_X1_sweep  {a0 : Nat} {x1 : Int32} {x2 : Int32} {x3 : Int32} {μ : gs_M} {r : Int32} {μ2 : gs_M} (hk0 : kd a0 = 1) (hD : D_X1_sweep a0 x1 x2 x3 μ = some (r, μ2)) : CALL yX1_sweep cX1_sweep 12 (some .boolean) 1 [.ref a0, .int x1, .int x2, .int x3] μ (some (.int r)) μ2 := by
  unfold D_X1_sweep at hD
  refine gs_enter mf_X1_sweep (Nat.le_of_ble_eq_true rfl) (ls := [.ref a0, .int x1, .int x2, .int x3, gs_J, gs_J, gs_J, gs_J, gs_J, gs_J, gs_J, gs_J]) rfl (fun p l e R s m args below meth c ad g tyc hK => ?_)
  have hK : KC p R s m args meth c ad g tyc RX1 cX1_sweep 12 (some .boolean) 1 := hK
  refine r_iconst hK d_X1_sweep_0 ci_0 ?_
  refine r_istore hK d_X1_sweep_1 (by decide) (ls2 := [.ref a0, .int x1, .int x2, .int x3, .int (0 : Int32), gs_J, gs_J, gs_J, gs_J, gs_J, gs_J, gs_J]) rfl ?_
  refine r_bipush hK d_X1_sweep_3 cb_100 ?_
  refine r_aload_n hK d_X1_sweep_5 rfl rfl ?_
  refine r_getI hK d_X1_sweep_6 fl_RX1_49_1 rfl hk0 ?_
  refine r_isub hK d_X1_sweep_9 ?_
  refine r_lti hD (fun v1 hD => ?_)
  refine r_istore hK d_X1_sweep_10 (by decide) (ls2 := [.ref a0, .int x1, .int x2, .int x3, .int (0 : Int32), .int v1, gs_J, gs_J, gs_J, gs_J, gs_J, gs_J]) rfl ?_
  refine r_aload_n hK d_X1_sweep_12 rfl rfl ?_
  refine r_getI hK d_X1_sweep_13 fl_RX1_43_1 rfl hk0 ?_
  refine r_if_le (tgt := 39) hK d_X1_sweep_16 (by decide) (fun h2 => ?_) (fun h2 => ?_)
  · have hD := if_t hD h2
    exact T_X1_sweep_39 hK  hk0 hD
  · have hD := if_f hD h2
    refine r_aload_n hK d_X1_sweep_19 rfl rfl ?_
    refine r_getI hK d_X1_sweep_20 fl_RX1_15_1 rfl hk0 ?_
    refine r_iconst hK d_X1_sweep_23 ci_2 ?_
    refine r_irem hK d_X1_sweep_24 (by decide) ?_
    refine r_if_ne (tgt := 39) hK d_X1_sweep_25 (by decide) (fun h3 => ?_) (fun h3 => ?_)
    · have hD := if_f hD h3
      exact T_X1_sweep_39 hK  hk0 hD
    · have hD := if_t hD h3
      refine r_aload_n hK d_X1_sweep_28 rfl rfl ?_
      refine r_getI hK d_X1_sweep_29 fl_RX1_15_1 rfl hk0 ?_
      refine r_iconst hK d_X1_sweep_32 ci_2 ?_
      refine r_idiv hK d_X1_sweep_33 (by decide) ?_
      refine r_iconst hK d_X1_sweep_34 ci_1 ?_
      refine r_isub hK d_X1_sweep_35 ?_
      refine r_goto (tgt := 40) hK d_X1_sweep_36 (by decide) ?_
      exact T_X1_sweep_40 hK  hk0 hD
end S_X1_sweep
theorem d_X1_unitsMost_0 : gd cX1_unitsMost 0 (.bipush 100) 2 2 := ⟨by decide +kernel, rfl⟩
theorem d_X1_unitsMost_2 : gd cX1_unitsMost 2 (.aload_n 0) 1 3 := ⟨by decide +kernel, rfl⟩
theorem d_X1_unitsMost_3 : gd cX1_unitsMost 3 (.getfield 49) 3 6 := ⟨by decide +kernel, rfl⟩
theorem d_X1_unitsMost_6 : gd cX1_unitsMost 6 .isub 1 7 := ⟨by decide +kernel, rfl⟩
theorem d_X1_unitsMost_7 : gd cX1_unitsMost 7 (.istore_n 1) 1 8 := ⟨by decide +kernel, rfl⟩
theorem d_X1_unitsMost_8 : gd cX1_unitsMost 8 (.iload_n 1) 1 9 := ⟨by decide +kernel, rfl⟩
theorem d_X1_unitsMost_9 : gd cX1_unitsMost 9 (.ifCond .le 18) 3 12 := ⟨by decide +kernel, rfl⟩
theorem d_X1_unitsMost_12 : gd cX1_unitsMost 12 (.bipush 100) 2 14 := ⟨by decide +kernel, rfl⟩
theorem d_X1_unitsMost_14 : gd cX1_unitsMost 14 (.aload_n 0) 1 15 := ⟨by decide +kernel, rfl⟩
theorem d_X1_unitsMost_15 : gd cX1_unitsMost 15 (.getfield 19) 3 18 := ⟨by decide +kernel, rfl⟩
theorem d_X1_unitsMost_18 : gd cX1_unitsMost 18 .imul 1 19 := ⟨by decide +kernel, rfl⟩
theorem d_X1_unitsMost_19 : gd cX1_unitsMost 19 (.bipush 9) 2 21 := ⟨by decide +kernel, rfl⟩
theorem d_X1_unitsMost_21 : gd cX1_unitsMost 21 .iadd 1 22 := ⟨by decide +kernel, rfl⟩
theorem d_X1_unitsMost_22 : gd cX1_unitsMost 22 (.iload_n 1) 1 23 := ⟨by decide +kernel, rfl⟩
theorem d_X1_unitsMost_23 : gd cX1_unitsMost 23 .idiv 1 24 := ⟨by decide +kernel, rfl⟩
theorem d_X1_unitsMost_24 : gd cX1_unitsMost 24 (.goto 4) 3 27 := ⟨by decide +kernel, rfl⟩
theorem d_X1_unitsMost_27 : gd cX1_unitsMost 27 (.iconst 0) 1 28 := ⟨by decide +kernel, rfl⟩
theorem d_X1_unitsMost_28 : gd cX1_unitsMost 28 .ireturn 1 29 := ⟨by decide +kernel, rfl⟩
def D_X1_unitsMost (a0 : Nat) (μ : gs_M) : Option (Int32 × gs_M) :=
  lt1 ((100 : Int32) - (gI μ a0 4)) (fun v1 => if v1 ≤ 0 then (some ((0 : Int32), μ)) else (ck (nzi v1) (some ((((100 : Int32) * (gI μ a0 8)) + (9 : Int32)) / v1, μ))))
section S_X1_unitsMost
variable {p : Program} {l : Launch} {e : Env} {R : Room} {s : State} {m : MethodId} {args : Array Value} {below : List Frame} {meth : Method} {c : Code} {ad : Nat → Nat} {g : va_G} {tyc : Nat → ClassId}
set_option maxRecDepth 20000 in
theorem C_X1_unitsMost  {a0 : Nat} {μ : gs_M} {r : Int32} {μ2 : gs_M} (hk0 : kd a0 = 1) (hD : D_X1_unitsMost a0 μ = some (r, μ2)) : CALL yX1_unitsMost cX1_unitsMost 2 (some .int) 0 [.ref a0] μ (some (.int r)) μ2 := by
  unfold D_X1_unitsMost at hD
  refine gs_enter mf_X1_unitsMost (Nat.le_of_ble_eq_true rfl) (ls := [.ref a0, gs_J]) rfl (fun p l e R s m args below meth c ad g tyc hK => ?_)
  have hK : KC p R s m args meth c ad g tyc RX1 cX1_unitsMost 2 (some .int) 0 := hK
  refine r_bipush hK d_X1_unitsMost_0 cb_100 ?_
  refine r_aload_n hK d_X1_unitsMost_2 rfl rfl ?_
  refine r_getI hK d_X1_unitsMost_3 fl_RX1_49_1 rfl hk0 ?_
  refine r_isub hK d_X1_unitsMost_6 ?_
  refine r_lti hD (fun v1 hD => ?_)
  refine r_istore_n hK d_X1_unitsMost_7 rfl (by decide) (ls2 := [.ref a0, .int v1]) rfl ?_
  refine r_iload_n hK d_X1_unitsMost_8 rfl rfl ?_
  refine r_if_le (tgt := 27) hK d_X1_unitsMost_9 (by decide) (fun h2 => ?_) (fun h2 => ?_)
  · have hD := if_t hD h2
    refine r_iconst hK d_X1_unitsMost_27 ci_0 ?_
    cases hD
    exact r_iret hK d_X1_unitsMost_28
  · have hD := if_f hD h2
    refine r_bipush hK d_X1_unitsMost_12 cb_100 ?_
    refine r_aload_n hK d_X1_unitsMost_14 rfl rfl ?_
    refine r_getI hK d_X1_unitsMost_15 fl_RX1_19_1 rfl hk0 ?_
    refine r_imul hK d_X1_unitsMost_18 ?_
    refine r_bipush hK d_X1_unitsMost_19 cb_9 ?_
    refine r_iadd hK d_X1_unitsMost_21 ?_
    refine r_iload_n hK d_X1_unitsMost_22 rfl rfl ?_
    obtain ⟨h3, hD⟩ := ck_e hD
    refine r_idiv hK d_X1_unitsMost_23 (nzi_e h3) ?_
    refine r_goto (tgt := 28) hK d_X1_unitsMost_24 (by decide) ?_
    cases hD
    exact r_iret hK d_X1_unitsMost_28
end S_X1_unitsMost
theorem d_X1_restWith_0 : gd cX1_restWith 0 (.aload_n 0) 1 1 := ⟨by decide +kernel, rfl⟩
theorem d_X1_restWith_1 : gd cX1_restWith 1 (.invokevirtual 95) 3 4 := ⟨by decide +kernel, rfl⟩
theorem d_X1_restWith_4 : gd cX1_restWith 4 (.istore_n 2) 1 5 := ⟨by decide +kernel, rfl⟩
theorem d_X1_restWith_5 : gd cX1_restWith 5 (.aload_n 0) 1 6 := ⟨by decide +kernel, rfl⟩
theorem d_X1_restWith_6 : gd cX1_restWith 6 (.invokevirtual 99) 3 9 := ⟨by decide +kernel, rfl⟩
theorem d_X1_restWith_9 : gd cX1_restWith 9 (.istore_n 3) 1 10 := ⟨by decide +kernel, rfl⟩
theorem d_X1_restWith_10 : gd cX1_restWith 10 (.iconst 1) 1 11 := ⟨by decide +kernel, rfl⟩
theorem d_X1_restWith_11 : gd cX1_restWith 11 (.istore 4) 2 13 := ⟨by decide +kernel, rfl⟩
theorem d_X1_restWith_13 : gd cX1_restWith 13 (.iconst 0) 1 14 := ⟨by decide +kernel, rfl⟩
theorem d_X1_restWith_14 : gd cX1_restWith 14 (.istore 5) 2 16 := ⟨by decide +kernel, rfl⟩
theorem d_X1_restWith_16 : gd cX1_restWith 16 (.iload 5) 2 18 := ⟨by decide +kernel, rfl⟩
theorem d_X1_restWith_18 : gd cX1_restWith 18 (.bipush 12) 2 20 := ⟨by decide +kernel, rfl⟩
theorem d_X1_restWith_20 : gd cX1_restWith 20 (.if_icmp .ge 26) 3 23 := ⟨by decide +kernel, rfl⟩
theorem d_X1_restWith_23 : gd cX1_restWith 23 (.iload 4) 2 25 := ⟨by decide +kernel, rfl⟩
theorem d_X1_restWith_25 : gd cX1_restWith 25 (.ifCond .eq 21) 3 28 := ⟨by decide +kernel, rfl⟩
theorem d_X1_restWith_28 : gd cX1_restWith 28 (.aload_n 0) 1 29 := ⟨by decide +kernel, rfl⟩
theorem d_X1_restWith_29 : gd cX1_restWith 29 (.bipush 10) 2 31 := ⟨by decide +kernel, rfl⟩
theorem d_X1_restWith_31 : gd cX1_restWith 31 (.iload_n 1) 1 32 := ⟨by decide +kernel, rfl⟩
theorem d_X1_restWith_32 : gd cX1_restWith 32 .imul 1 33 := ⟨by decide +kernel, rfl⟩
theorem d_X1_restWith_33 : gd cX1_restWith 33 (.iload_n 2) 1 34 := ⟨by decide +kernel, rfl⟩
theorem d_X1_restWith_34 : gd cX1_restWith 34 (.iload_n 3) 1 35 := ⟨by decide +kernel, rfl⟩
theorem d_X1_restWith_35 : gd cX1_restWith 35 (.invokevirtual 102) 3 38 := ⟨by decide +kernel, rfl⟩
theorem d_X1_restWith_38 : gd cX1_restWith 38 (.istore 4) 2 40 := ⟨by decide +kernel, rfl⟩
theorem d_X1_restWith_40 : gd cX1_restWith 40 (.iinc 5 1) 3 43 := ⟨by decide +kernel, rfl⟩
theorem d_X1_restWith_43 : gd cX1_restWith 43 (.goto (-27)) 3 46 := ⟨by decide +kernel, rfl⟩
theorem d_X1_restWith_46 : gd cX1_restWith 46 .return_ 1 47 := ⟨by decide +kernel, rfl⟩
def Bo_X1_restWith_16 (q16 : Nat → Int32 → Int32 → Int32 → Int32 → Int32 → gs_M → Option (gs_M)) (a0 : Nat) (x1 : Int32) (x2 : Int32) (x3 : Int32) (x4 : Int32) (x5 : Int32) (μ : gs_M) : Option (gs_M) :=
  if (12 : Int32) ≤ x5 then (some μ) else (if x4 = 0 then (some μ) else (bd (D_X1_sweep a0 ((10 : Int32) * x1) x2 x3 μ) (fun v5 u4 => q16 a0 x1 x2 x3 v5 (x5 + (1 : Int32)) u4)))
def L_X1_restWith_16  : Nat → Nat → Int32 → Int32 → Int32 → Int32 → Int32 → gs_M → Option (gs_M)
  | 0 => fun _ _ _ _ _ _ _ => none
  | n + 1 => fun a0 x1 x2 x3 x4 x5 μ => Bo_X1_restWith_16  (L_X1_restWith_16  n) a0 x1 x2 x3 x4 x5 μ
def D_X1_restWith (a0 : Nat) (x1 : Int32) (μ : gs_M) : Option (gs_M) :=
  bd (D_X1_holdsFast a0 μ) (fun v3 u2 => bd (D_X1_unitsMost a0 u2) (fun v6 u5 => L_X1_restWith_16 4096 a0 x1 v3 v6 (1 : Int32) (0 : Int32) u5))
section S_X1_restWith
variable {p : Program} {l : Launch} {e : Env} {R : Room} {s : State} {m : MethodId} {args : Array Value} {below : List Frame} {meth : Method} {c : Code} {ad : Nat → Nat} {g : va_G} {tyc : Nat → ClassId}
set_option maxRecDepth 20000 in
theorem To_X1_restWith_16  (hK : KC p R s m args meth c ad g tyc RX1 cX1_restWith 6 none 2) {μ2 : gs_M} {q16 : Nat → Int32 → Int32 → Int32 → Int32 → Int32 → gs_M → Option (gs_M)} (hq16 : ∀ (a0 : Nat) (x1 : Int32) (x2 : Int32) (x3 : Int32) (x4 : Int32) (x5 : Int32) (μ : gs_M), kd a0 = 1 → q16 a0 x1 x2 x3 x4 x5 μ = some μ2 → WJ p l e R s m args below meth c 0 0 (MQ below (gs_Q ad g tyc none μ2) args s 0 0 (gs_A ad)) ad g tyc 6 16 [.ref a0, .int x1, .int x2, .int x3, .int x4, .int x5] [] μ) {a0 : Nat} {x1 : Int32} {x2 : Int32} {x3 : Int32} {x4 : Int32} {x5 : Int32} {μ : gs_M} (hk0 : kd a0 = 1) (hD : Bo_X1_restWith_16 q16 a0 x1 x2 x3 x4 x5 μ = some μ2) : WJ p l e R s m args below meth c 0 0 (MQ below (gs_Q ad g tyc none μ2) args s 0 0 (gs_A ad)) ad g tyc 6 16 [.ref a0, .int x1, .int x2, .int x3, .int x4, .int x5] [] μ := by
  unfold Bo_X1_restWith_16 at hD
  refine r_iload hK d_X1_restWith_16 rfl ?_
  refine r_bipush hK d_X1_restWith_18 cb_12 ?_
  refine r_icmp_ge (tgt := 46) hK d_X1_restWith_20 (by decide) (fun h1 => ?_) (fun h1 => ?_)
  · have hD := if_t hD h1
    cases hD
    exact r_vret hK d_X1_restWith_46
  · have hD := if_f hD h1
    refine r_iload hK d_X1_restWith_23 rfl ?_
    refine r_if_eq (tgt := 46) hK d_X1_restWith_25 (by decide) (fun h2 => ?_) (fun h2 => ?_)
    · have hD := if_t hD h2
      cases hD
      exact r_vret hK d_X1_restWith_46
    · have hD := if_f hD h2
      refine r_aload_n hK d_X1_restWith_28 rfl rfl ?_
      refine r_bipush hK d_X1_restWith_29 cb_10 ?_
      refine r_iload_n hK d_X1_restWith_31 rfl rfl ?_
      refine r_imul hK d_X1_restWith_32 ?_
      refine r_iload_n hK d_X1_restWith_33 rfl rfl ?_
      refine r_iload_n hK d_X1_restWith_34 rfl rfl ?_
      obtain ⟨v5, u4, e3, hD⟩ := bd_e hD
      refine r_callV (As := [.int ((10 : Int32) * x1), .int x2, .int x3]) (st := []) (stk2 := [.int v5]) hK (C_X1_sweep hk0 e3) d_X1_restWith_35 mf_X1_sweep ml_RX1_102 im_X1_sweep rfl se_1_RX1_X1_sweep hk0 rfl (Nat.le_of_ble_eq_true rfl) (by decide) ⟨Nat.zero_le _, Nat.zero_le _⟩ rfl rfl ?_
      refine r_istore hK d_X1_restWith_38 (by decide) (ls2 := [.ref a0, .int x1, .int x2, .int x3, .int v5, .int x5]) rfl ?_
      refine r_iinc hK d_X1_restWith_40 rfl (v := x5 + (1 : Int32)) (by rw [ci_1]) (by decide) (ls2 := [.ref a0, .int x1, .int x2, .int x3, .int v5, .int (x5 + (1 : Int32))]) rfl ?_
      refine r_goto (tgt := 16) hK d_X1_restWith_43 (by decide) ?_
      exact hq16 _ _ _ _ _ _ _ hk0 hD
set_option maxRecDepth 20000 in
theorem TL_X1_restWith_16  (hK : KC p R s m args meth c ad g tyc RX1 cX1_restWith 6 none 2) {μ2 : gs_M}   : ∀ (n : Nat) (a0 : Nat) (x1 : Int32) (x2 : Int32) (x3 : Int32) (x4 : Int32) (x5 : Int32) (μ : gs_M), kd a0 = 1 → L_X1_restWith_16  n a0 x1 x2 x3 x4 x5 μ = some μ2 → WJ p l e R s m args below meth c 0 0 (MQ below (gs_Q ad g tyc none μ2) args s 0 0 (gs_A ad)) ad g tyc 6 16 [.ref a0, .int x1, .int x2, .int x3, .int x4, .int x5] [] μ := by
  intro n
  induction n with
  | zero => intro a0 x1 x2 x3 x4 x5 μ hk0 hD; cases hD
  | succ n ih => intro a0 x1 x2 x3 x4 x5 μ hk0 hD; exact To_X1_restWith_16 hK  ih hk0 hD
set_option maxRecDepth 20000 in
theorem C_X1_restWith  {a0 : Nat} {x1 : Int32} {μ : gs_M} {μ2 : gs_M} (hk0 : kd a0 = 1) (hD : D_X1_restWith a0 x1 μ = some μ2) : CALL yX1_restWith cX1_restWith 6 none 2 [.ref a0, .int x1] μ none μ2 := by
  unfold D_X1_restWith at hD
  refine gs_enter mf_X1_restWith (Nat.le_of_ble_eq_true rfl) (ls := [.ref a0, .int x1, gs_J, gs_J, gs_J, gs_J]) rfl (fun p l e R s m args below meth c ad g tyc hK => ?_)
  have hK : KC p R s m args meth c ad g tyc RX1 cX1_restWith 6 none 2 := hK
  refine r_aload_n hK d_X1_restWith_0 rfl rfl ?_
  obtain ⟨v3, u2, e1, hD⟩ := bd_e hD
  refine r_callV (As := []) (st := []) (stk2 := [.int v3]) hK (C_X1_holdsFast hk0 e1) d_X1_restWith_1 mf_X1_holdsFast ml_RX1_95 im_X1_holdsFast rfl se_1_RX1_X1_holdsFast hk0 rfl (Nat.le_of_ble_eq_true rfl) (by decide) ⟨Nat.zero_le _, Nat.zero_le _⟩ rfl rfl ?_
  refine r_istore_n hK d_X1_restWith_4 rfl (by decide) (ls2 := [.ref a0, .int x1, .int v3, gs_J, gs_J, gs_J]) rfl ?_
  refine r_aload_n hK d_X1_restWith_5 rfl rfl ?_
  obtain ⟨v6, u5, e4, hD⟩ := bd_e hD
  refine r_callV (As := []) (st := []) (stk2 := [.int v6]) hK (C_X1_unitsMost hk0 e4) d_X1_restWith_6 mf_X1_unitsMost ml_RX1_99 im_X1_unitsMost rfl se_1_RX1_X1_unitsMost hk0 rfl (Nat.le_of_ble_eq_true rfl) (by decide) ⟨Nat.zero_le _, Nat.zero_le _⟩ rfl rfl ?_
  refine r_istore_n hK d_X1_restWith_9 rfl (by decide) (ls2 := [.ref a0, .int x1, .int v3, .int v6, gs_J, gs_J]) rfl ?_
  refine r_iconst hK d_X1_restWith_10 ci_1 ?_
  refine r_istore hK d_X1_restWith_11 (by decide) (ls2 := [.ref a0, .int x1, .int v3, .int v6, .int (1 : Int32), gs_J]) rfl ?_
  refine r_iconst hK d_X1_restWith_13 ci_0 ?_
  refine r_istore hK d_X1_restWith_14 (by decide) (ls2 := [.ref a0, .int x1, .int v3, .int v6, .int (1 : Int32), .int (0 : Int32)]) rfl ?_
  exact TL_X1_restWith_16 hK  _ _ _ _ _ _ _ _ hk0 hD
end S_X1_restWith
theorem d_X1_pourOntoMiddle_0 : gd cX1_pourOntoMiddle 0 (.iconst 0) 1 1 := ⟨by decide +kernel, rfl⟩
theorem d_X1_pourOntoMiddle_1 : gd cX1_pourOntoMiddle 1 (.istore_n 2) 1 2 := ⟨by decide +kernel, rfl⟩
theorem d_X1_pourOntoMiddle_2 : gd cX1_pourOntoMiddle 2 (.iload_n 2) 1 3 := ⟨by decide +kernel, rfl⟩
theorem d_X1_pourOntoMiddle_3 : gd cX1_pourOntoMiddle 3 (.iload_n 1) 1 4 := ⟨by decide +kernel, rfl⟩
theorem d_X1_pourOntoMiddle_4 : gd cX1_pourOntoMiddle 4 (.if_icmp .ge 58) 3 7 := ⟨by decide +kernel, rfl⟩
theorem d_X1_pourOntoMiddle_7 : gd cX1_pourOntoMiddle 7 (.aload_n 0) 1 8 := ⟨by decide +kernel, rfl⟩
theorem d_X1_pourOntoMiddle_8 : gd cX1_pourOntoMiddle 8 (.iload_n 2) 1 9 := ⟨by decide +kernel, rfl⟩
theorem d_X1_pourOntoMiddle_9 : gd cX1_pourOntoMiddle 9 (.iconst 2) 1 10 := ⟨by decide +kernel, rfl⟩
theorem d_X1_pourOntoMiddle_10 : gd cX1_pourOntoMiddle 10 .irem 1 11 := ⟨by decide +kernel, rfl⟩
theorem d_X1_pourOntoMiddle_11 : gd cX1_pourOntoMiddle 11 (.ifCond .ne 14) 3 14 := ⟨by decide +kernel, rfl⟩
theorem d_X1_pourOntoMiddle_14 : gd cX1_pourOntoMiddle 14 (.aload_n 0) 1 15 := ⟨by decide +kernel, rfl⟩
theorem d_X1_pourOntoMiddle_15 : gd cX1_pourOntoMiddle 15 (.getfield 15) 3 18 := ⟨by decide +kernel, rfl⟩
theorem d_X1_pourOntoMiddle_18 : gd cX1_pourOntoMiddle 18 (.iconst 1) 1 19 := ⟨by decide +kernel, rfl⟩
theorem d_X1_pourOntoMiddle_19 : gd cX1_pourOntoMiddle 19 .isub 1 20 := ⟨by decide +kernel, rfl⟩
theorem d_X1_pourOntoMiddle_20 : gd cX1_pourOntoMiddle 20 (.iconst 2) 1 21 := ⟨by decide +kernel, rfl⟩
theorem d_X1_pourOntoMiddle_21 : gd cX1_pourOntoMiddle 21 .idiv 1 22 := ⟨by decide +kernel, rfl⟩
theorem d_X1_pourOntoMiddle_22 : gd cX1_pourOntoMiddle 22 (.goto 9) 3 25 := ⟨by decide +kernel, rfl⟩
theorem d_X1_pourOntoMiddle_25 : gd cX1_pourOntoMiddle 25 (.aload_n 0) 1 26 := ⟨by decide +kernel, rfl⟩
theorem d_X1_pourOntoMiddle_26 : gd cX1_pourOntoMiddle 26 (.getfield 15) 3 29 := ⟨by decide +kernel, rfl⟩
theorem d_X1_pourOntoMiddle_29 : gd cX1_pourOntoMiddle 29 (.iconst 2) 1 30 := ⟨by decide +kernel, rfl⟩
theorem d_X1_pourOntoMiddle_30 : gd cX1_pourOntoMiddle 30 .idiv 1 31 := ⟨by decide +kernel, rfl⟩
theorem d_X1_pourOntoMiddle_31 : gd cX1_pourOntoMiddle 31 (.invokevirtual 71) 3 34 := ⟨by decide +kernel, rfl⟩
theorem d_X1_pourOntoMiddle_34 : gd cX1_pourOntoMiddle 34 (.istore_n 3) 1 35 := ⟨by decide +kernel, rfl⟩
theorem d_X1_pourOntoMiddle_35 : gd cX1_pourOntoMiddle 35 (.iload_n 3) 1 36 := ⟨by decide +kernel, rfl⟩
theorem d_X1_pourOntoMiddle_36 : gd cX1_pourOntoMiddle 36 (.iconst (-1)) 1 37 := ⟨by decide +kernel, rfl⟩
theorem d_X1_pourOntoMiddle_37 : gd cX1_pourOntoMiddle 37 (.if_icmp .ne 4) 3 40 := ⟨by decide +kernel, rfl⟩
theorem d_X1_pourOntoMiddle_40 : gd cX1_pourOntoMiddle 40 .return_ 1 41 := ⟨by decide +kernel, rfl⟩
theorem d_X1_pourOntoMiddle_41 : gd cX1_pourOntoMiddle 41 (.aload_n 0) 1 42 := ⟨by decide +kernel, rfl⟩
theorem d_X1_pourOntoMiddle_42 : gd cX1_pourOntoMiddle 42 (.getfield 9) 3 45 := ⟨by decide +kernel, rfl⟩
theorem d_X1_pourOntoMiddle_45 : gd cX1_pourOntoMiddle 45 (.iload_n 3) 1 46 := ⟨by decide +kernel, rfl⟩
theorem d_X1_pourOntoMiddle_46 : gd cX1_pourOntoMiddle 46 .dup2 1 47 := ⟨by decide +kernel, rfl⟩
theorem d_X1_pourOntoMiddle_47 : gd cX1_pourOntoMiddle 47 .iaload 1 48 := ⟨by decide +kernel, rfl⟩
theorem d_X1_pourOntoMiddle_48 : gd cX1_pourOntoMiddle 48 (.iconst 1) 1 49 := ⟨by decide +kernel, rfl⟩
theorem d_X1_pourOntoMiddle_49 : gd cX1_pourOntoMiddle 49 .iadd 1 50 := ⟨by decide +kernel, rfl⟩
theorem d_X1_pourOntoMiddle_50 : gd cX1_pourOntoMiddle 50 .iastore 1 51 := ⟨by decide +kernel, rfl⟩
theorem d_X1_pourOntoMiddle_51 : gd cX1_pourOntoMiddle 51 (.aload_n 0) 1 52 := ⟨by decide +kernel, rfl⟩
theorem d_X1_pourOntoMiddle_52 : gd cX1_pourOntoMiddle 52 (.iconst 0) 1 53 := ⟨by decide +kernel, rfl⟩
theorem d_X1_pourOntoMiddle_53 : gd cX1_pourOntoMiddle 53 (.invokevirtual 75) 3 56 := ⟨by decide +kernel, rfl⟩
theorem d_X1_pourOntoMiddle_56 : gd cX1_pourOntoMiddle 56 (.iinc 2 1) 3 59 := ⟨by decide +kernel, rfl⟩
theorem d_X1_pourOntoMiddle_59 : gd cX1_pourOntoMiddle 59 (.goto (-57)) 3 62 := ⟨by decide +kernel, rfl⟩
theorem d_X1_pourOntoMiddle_62 : gd cX1_pourOntoMiddle 62 .return_ 1 63 := ⟨by decide +kernel, rfl⟩
def B_X1_pourOntoMiddle_31 (q2 : Nat → Int32 → Int32 → gs_M → Option (gs_M)) (a0 : Nat) (x1 : Int32) (x2 : Int32) (as0 : Nat) (xs1 : Int32) (μ : gs_M) : Option (gs_M) :=
  bd (D_X1_nearestNotFull as0 xs1 μ) (fun v3 u2 => if v3 = (-1 : Int32) then (some u2) else (ck (inb v3 12) (ck (inb v3 12) (lt1 (sI u2 (a0 + 1) (Int32.toNatClampNeg v3) ((gI u2 (a0 + 1) (Int32.toNatClampNeg v3)) + (1 : Int32))) (fun u7 => bd0 (D_X1_restWith a0 (0 : Int32) u7) (fun u9 => q2 a0 x1 (x2 + (1 : Int32)) u9))))))
def Bo_X1_pourOntoMiddle_2 (q2 : Nat → Int32 → Int32 → gs_M → Option (gs_M)) (a0 : Nat) (x1 : Int32) (x2 : Int32) (μ : gs_M) : Option (gs_M) :=
  if x1 ≤ x2 then (some μ) else (if (x2 - x2 / (2 : Int32) * (2 : Int32)) = 0 then (B_X1_pourOntoMiddle_31 q2 a0 x1 x2 a0 (((gI μ a0 1) - (1 : Int32)) / (2 : Int32)) μ) else (B_X1_pourOntoMiddle_31 q2 a0 x1 x2 a0 ((gI μ a0 1) / (2 : Int32)) μ))
def L_X1_pourOntoMiddle_2  : Nat → Nat → Int32 → Int32 → gs_M → Option (gs_M)
  | 0 => fun _ _ _ _ => none
  | n + 1 => fun a0 x1 x2 μ => Bo_X1_pourOntoMiddle_2  (L_X1_pourOntoMiddle_2  n) a0 x1 x2 μ
def D_X1_pourOntoMiddle (a0 : Nat) (x1 : Int32) (μ : gs_M) : Option (gs_M) :=
  L_X1_pourOntoMiddle_2 4096 a0 x1 (0 : Int32) μ
section S_X1_pourOntoMiddle
variable {p : Program} {l : Launch} {e : Env} {R : Room} {s : State} {m : MethodId} {args : Array Value} {below : List Frame} {meth : Method} {c : Code} {ad : Nat → Nat} {g : va_G} {tyc : Nat → ClassId}
set_option maxRecDepth 20000 in
theorem T_X1_pourOntoMiddle_31  (hK : KC p R s m args meth c ad g tyc RX1 cX1_pourOntoMiddle 4 none 3) {μ2 : gs_M} {q2 : Nat → Int32 → Int32 → gs_M → Option (gs_M)} (hq2 : ∀ (a0 : Nat) (x1 : Int32) (x2 : Int32) (μ : gs_M), kd a0 = 1 → q2 a0 x1 x2 μ = some μ2 → WJ p l e R s m args below meth c 0 0 (MQ below (gs_Q ad g tyc none μ2) args s 0 0 (gs_A ad)) ad g tyc 4 2 [.ref a0, .int x1, .int x2, gs_J] [] μ) {a0 : Nat} {x1 : Int32} {x2 : Int32} {as0 : Nat} {xs1 : Int32} {μ : gs_M} (hk0 : kd a0 = 1) (hks0 : kd as0 = 1) (hD : B_X1_pourOntoMiddle_31 q2 a0 x1 x2 as0 xs1 μ = some μ2) : WJ p l e R s m args below meth c 0 0 (MQ below (gs_Q ad g tyc none μ2) args s 0 0 (gs_A ad)) ad g tyc 4 31 [.ref a0, .int x1, .int x2, gs_J] [.int xs1, .ref as0] μ := by
  unfold B_X1_pourOntoMiddle_31 at hD
  obtain ⟨v3, u2, e1, hD⟩ := bd_e hD
  refine r_callV (As := [.int xs1]) (st := []) (stk2 := [.int v3]) hK (C_X1_nearestNotFull hks0 e1) d_X1_pourOntoMiddle_31 mf_X1_nearestNotFull ml_RX1_71 im_X1_nearestNotFull rfl se_1_RX1_X1_nearestNotFull hks0 rfl (Nat.le_of_ble_eq_true rfl) (by decide) ⟨Nat.zero_le _, Nat.zero_le _⟩ rfl rfl ?_
  refine r_istore_n hK d_X1_pourOntoMiddle_34 rfl (by decide) (ls2 := [.ref a0, .int x1, .int x2, .int v3]) rfl ?_
  refine r_iload_n hK d_X1_pourOntoMiddle_35 rfl rfl ?_
  refine r_iconst hK d_X1_pourOntoMiddle_36 ci_m1 ?_
  refine r_icmp_ne (tgt := 41) hK d_X1_pourOntoMiddle_37 (by decide) (fun h4 => ?_) (fun h4 => ?_)
  · have hD := if_f hD h4
    refine r_aload_n hK d_X1_pourOntoMiddle_41 rfl rfl ?_
    refine r_getR hK d_X1_pourOntoMiddle_42 fl_RX1_9_1 rfl hk0 ?_
    refine r_ref (b := (a0 + 1)) ((ly_hold _ hk0).1) ?_
    refine r_iload_n hK d_X1_pourOntoMiddle_45 rfl rfl ?_
    refine r_dup2 hK d_X1_pourOntoMiddle_46 rfl rfl ?_
    obtain ⟨h5, hD⟩ := ck_e hD
    refine r_iald hK d_X1_pourOntoMiddle_47 ((ly_hold _ hk0).2.1) ((ly_hold _ hk0).2.2) (inb_in h5) ?_
    refine r_iconst hK d_X1_pourOntoMiddle_48 ci_1 ?_
    refine r_iadd hK d_X1_pourOntoMiddle_49 ?_
    obtain ⟨h6, hD⟩ := ck_e hD
    refine r_iast hK d_X1_pourOntoMiddle_50 ((ly_hold _ hk0).2.1) ((ly_hold _ hk0).2.2) (inb_in h6) ?_
    refine r_ltm hD (fun u7 hD => ?_)
    refine r_aload_n hK d_X1_pourOntoMiddle_51 rfl rfl ?_
    refine r_iconst hK d_X1_pourOntoMiddle_52 ci_0 ?_
    obtain ⟨u9, e8, hD⟩ := bd0_e hD
    refine r_callV (As := [.int (0 : Int32)]) (st := []) (stk2 := []) hK (C_X1_restWith hk0 e8) d_X1_pourOntoMiddle_53 mf_X1_restWith ml_RX1_75 im_X1_restWith rfl se_1_RX1_X1_restWith hk0 rfl (Nat.le_of_ble_eq_true rfl) (by decide) ⟨Nat.zero_le _, Nat.zero_le _⟩ rfl rfl ?_
    refine r_iinc hK d_X1_pourOntoMiddle_56 rfl (v := x2 + (1 : Int32)) (by rw [ci_1]) (by decide) (ls2 := [.ref a0, .int x1, .int (x2 + (1 : Int32)), .int v3]) rfl ?_
    refine r_goto (tgt := 2) hK d_X1_pourOntoMiddle_59 (by decide) ?_
    refine r_junk [true, true, true, false] (ls2 := [.ref a0, .int x1, .int (x2 + (1 : Int32)), gs_J]) rfl ?_
    exact hq2 _ _ _ _ hk0 hD
  · have hD := if_t hD h4
    cases hD
    exact r_vret hK d_X1_pourOntoMiddle_40
set_option maxRecDepth 20000 in
theorem To_X1_pourOntoMiddle_2  (hK : KC p R s m args meth c ad g tyc RX1 cX1_pourOntoMiddle 4 none 3) {μ2 : gs_M} {q2 : Nat → Int32 → Int32 → gs_M → Option (gs_M)} (hq2 : ∀ (a0 : Nat) (x1 : Int32) (x2 : Int32) (μ : gs_M), kd a0 = 1 → q2 a0 x1 x2 μ = some μ2 → WJ p l e R s m args below meth c 0 0 (MQ below (gs_Q ad g tyc none μ2) args s 0 0 (gs_A ad)) ad g tyc 4 2 [.ref a0, .int x1, .int x2, gs_J] [] μ) {a0 : Nat} {x1 : Int32} {x2 : Int32} {μ : gs_M} (hk0 : kd a0 = 1) (hD : Bo_X1_pourOntoMiddle_2 q2 a0 x1 x2 μ = some μ2) : WJ p l e R s m args below meth c 0 0 (MQ below (gs_Q ad g tyc none μ2) args s 0 0 (gs_A ad)) ad g tyc 4 2 [.ref a0, .int x1, .int x2, gs_J] [] μ := by
  unfold Bo_X1_pourOntoMiddle_2 at hD
  refine r_iload_n hK d_X1_pourOntoMiddle_2 rfl rfl ?_
  refine r_iload_n hK d_X1_pourOntoMiddle_3 rfl rfl ?_
  refine r_icmp_ge (tgt := 62) hK d_X1_pourOntoMiddle_4 (by decide) (fun h1 => ?_) (fun h1 => ?_)
  · have hD := if_t hD h1
    cases hD
    exact r_vret hK d_X1_pourOntoMiddle_62
  · have hD := if_f hD h1
    refine r_aload_n hK d_X1_pourOntoMiddle_7 rfl rfl ?_
    refine r_iload_n hK d_X1_pourOntoMiddle_8 rfl rfl ?_
    refine r_iconst hK d_X1_pourOntoMiddle_9 ci_2 ?_
    refine r_irem hK d_X1_pourOntoMiddle_10 (by decide) ?_
    refine r_if_ne (tgt := 25) hK d_X1_pourOntoMiddle_11 (by decide) (fun h2 => ?_) (fun h2 => ?_)
    · have hD := if_f hD h2
      refine r_aload_n hK d_X1_pourOntoMiddle_25 rfl rfl ?_
      refine r_getI hK d_X1_pourOntoMiddle_26 fl_RX1_15_1 rfl hk0 ?_
      refine r_iconst hK d_X1_pourOntoMiddle_29 ci_2 ?_
      refine r_idiv hK d_X1_pourOntoMiddle_30 (by decide) ?_
      exact T_X1_pourOntoMiddle_31 hK hq2 hk0 hk0 hD
    · have hD := if_t hD h2
      refine r_aload_n hK d_X1_pourOntoMiddle_14 rfl rfl ?_
      refine r_getI hK d_X1_pourOntoMiddle_15 fl_RX1_15_1 rfl hk0 ?_
      refine r_iconst hK d_X1_pourOntoMiddle_18 ci_1 ?_
      refine r_isub hK d_X1_pourOntoMiddle_19 ?_
      refine r_iconst hK d_X1_pourOntoMiddle_20 ci_2 ?_
      refine r_idiv hK d_X1_pourOntoMiddle_21 (by decide) ?_
      refine r_goto (tgt := 31) hK d_X1_pourOntoMiddle_22 (by decide) ?_
      exact T_X1_pourOntoMiddle_31 hK hq2 hk0 hk0 hD
set_option maxRecDepth 20000 in
theorem TL_X1_pourOntoMiddle_2  (hK : KC p R s m args meth c ad g tyc RX1 cX1_pourOntoMiddle 4 none 3) {μ2 : gs_M}   : ∀ (n : Nat) (a0 : Nat) (x1 : Int32) (x2 : Int32) (μ : gs_M), kd a0 = 1 → L_X1_pourOntoMiddle_2  n a0 x1 x2 μ = some μ2 → WJ p l e R s m args below meth c 0 0 (MQ below (gs_Q ad g tyc none μ2) args s 0 0 (gs_A ad)) ad g tyc 4 2 [.ref a0, .int x1, .int x2, gs_J] [] μ := by
  intro n
  induction n with
  | zero => intro a0 x1 x2 μ hk0 hD; cases hD
  | succ n ih => intro a0 x1 x2 μ hk0 hD; exact To_X1_pourOntoMiddle_2 hK  ih hk0 hD
set_option maxRecDepth 20000 in
theorem C_X1_pourOntoMiddle  {a0 : Nat} {x1 : Int32} {μ : gs_M} {μ2 : gs_M} (hk0 : kd a0 = 1) (hD : D_X1_pourOntoMiddle a0 x1 μ = some μ2) : CALL yX1_pourOntoMiddle cX1_pourOntoMiddle 4 none 3 [.ref a0, .int x1] μ none μ2 := by
  unfold D_X1_pourOntoMiddle at hD
  refine gs_enter mf_X1_pourOntoMiddle (Nat.le_of_ble_eq_true rfl) (ls := [.ref a0, .int x1, gs_J, gs_J]) rfl (fun p l e R s m args below meth c ad g tyc hK => ?_)
  have hK : KC p R s m args meth c ad g tyc RX1 cX1_pourOntoMiddle 4 none 3 := hK
  refine r_iconst hK d_X1_pourOntoMiddle_0 ci_0 ?_
  refine r_istore_n hK d_X1_pourOntoMiddle_1 rfl (by decide) (ls2 := [.ref a0, .int x1, .int (0 : Int32), gs_J]) rfl ?_
  exact TL_X1_pourOntoMiddle_2 hK  _ _ _ _ _ hk0 hD
end S_X1_pourOntoMiddle
theorem d_X1_fill_0 : gd cX1_fill 0 (.iconst 0) 1 1 := ⟨by decide +kernel, rfl⟩
theorem d_X1_fill_1 : gd cX1_fill 1 (.istore_n 3) 1 2 := ⟨by decide +kernel, rfl⟩
theorem d_X1_fill_2 : gd cX1_fill 2 (.iload_n 3) 1 3 := ⟨by decide +kernel, rfl⟩
theorem d_X1_fill_3 : gd cX1_fill 3 (.bipush 12) 2 5 := ⟨by decide +kernel, rfl⟩
theorem d_X1_fill_5 : gd cX1_fill 5 (.if_icmp .ge 16) 3 8 := ⟨by decide +kernel, rfl⟩
theorem d_X1_fill_8 : gd cX1_fill 8 (.aload_n 0) 1 9 := ⟨by decide +kernel, rfl⟩
theorem d_X1_fill_9 : gd cX1_fill 9 (.getfield 9) 3 12 := ⟨by decide +kernel, rfl⟩
theorem d_X1_fill_12 : gd cX1_fill 12 (.iload_n 3) 1 13 := ⟨by decide +kernel, rfl⟩
theorem d_X1_fill_13 : gd cX1_fill 13 (.iconst 0) 1 14 := ⟨by decide +kernel, rfl⟩
theorem d_X1_fill_14 : gd cX1_fill 14 .iastore 1 15 := ⟨by decide +kernel, rfl⟩
theorem d_X1_fill_15 : gd cX1_fill 15 (.iinc 3 1) 3 18 := ⟨by decide +kernel, rfl⟩
theorem d_X1_fill_18 : gd cX1_fill 18 (.goto (-16)) 3 21 := ⟨by decide +kernel, rfl⟩
theorem d_X1_fill_21 : gd cX1_fill 21 (.aload_n 0) 1 22 := ⟨by decide +kernel, rfl⟩
theorem d_X1_fill_22 : gd cX1_fill 22 (.iconst 0) 1 23 := ⟨by decide +kernel, rfl⟩
theorem d_X1_fill_23 : gd cX1_fill 23 (.putfield 49) 3 26 := ⟨by decide +kernel, rfl⟩
theorem d_X1_fill_26 : gd cX1_fill 26 (.aload_n 0) 1 27 := ⟨by decide +kernel, rfl⟩
theorem d_X1_fill_27 : gd cX1_fill 27 (.iconst 0) 1 28 := ⟨by decide +kernel, rfl⟩
theorem d_X1_fill_28 : gd cX1_fill 28 (.putfield 52) 3 31 := ⟨by decide +kernel, rfl⟩
theorem d_X1_fill_31 : gd cX1_fill 31 (.aload_n 0) 1 32 := ⟨by decide +kernel, rfl⟩
theorem d_X1_fill_32 : gd cX1_fill 32 (.getfield 15) 3 35 := ⟨by decide +kernel, rfl⟩
theorem d_X1_fill_35 : gd cX1_fill 35 (.ifCond .le 20) 3 38 := ⟨by decide +kernel, rfl⟩
theorem d_X1_fill_38 : gd cX1_fill 38 (.iload_n 2) 1 39 := ⟨by decide +kernel, rfl⟩
theorem d_X1_fill_39 : gd cX1_fill 39 (.ifCond .eq 11) 3 42 := ⟨by decide +kernel, rfl⟩
theorem d_X1_fill_42 : gd cX1_fill 42 (.aload_n 0) 1 43 := ⟨by decide +kernel, rfl⟩
theorem d_X1_fill_43 : gd cX1_fill 43 (.iload_n 1) 1 44 := ⟨by decide +kernel, rfl⟩
theorem d_X1_fill_44 : gd cX1_fill 44 (.invokevirtual 64) 3 47 := ⟨by decide +kernel, rfl⟩
theorem d_X1_fill_47 : gd cX1_fill 47 (.goto 8) 3 50 := ⟨by decide +kernel, rfl⟩
theorem d_X1_fill_50 : gd cX1_fill 50 (.aload_n 0) 1 51 := ⟨by decide +kernel, rfl⟩
theorem d_X1_fill_51 : gd cX1_fill 51 (.iload_n 1) 1 52 := ⟨by decide +kernel, rfl⟩
theorem d_X1_fill_52 : gd cX1_fill 52 (.invokevirtual 68) 3 55 := ⟨by decide +kernel, rfl⟩
theorem d_X1_fill_55 : gd cX1_fill 55 (.aload_n 0) 1 56 := ⟨by decide +kernel, rfl⟩
theorem d_X1_fill_56 : gd cX1_fill 56 (.invokevirtual 55) 3 59 := ⟨by decide +kernel, rfl⟩
theorem d_X1_fill_59 : gd cX1_fill 59 .return_ 1 60 := ⟨by decide +kernel, rfl⟩
def B_X1_fill_55  (a0 : Nat) (μ : gs_M) : Option (gs_M) :=
  bd0 (D_X1_clearCounts a0 μ) (fun u2 => some u2)
def Bo_X1_fill_2 (q2 : Nat → Int32 → Int32 → Int32 → gs_M → Option (gs_M)) (a0 : Nat) (x1 : Int32) (x2 : Int32) (x3 : Int32) (μ : gs_M) : Option (gs_M) :=
  if (12 : Int32) ≤ x3 then (lt1 (sI μ a0 4 (0 : Int32)) (fun u2 => lt1 (sI u2 a0 5 (0 : Int32)) (fun u3 => if (gI u3 a0 1) ≤ 0 then (B_X1_fill_55 a0 u3) else (if x2 = 0 then (bd0 (D_X1_pourOntoMiddle a0 x1 u3) (fun u7 => B_X1_fill_55 a0 u7)) else (bd0 (D_X1_layEvenly a0 x1 u3) (fun u9 => B_X1_fill_55 a0 u9)))))) else (ck (inb x3 12) (lt1 (sI μ (a0 + 1) (Int32.toNatClampNeg x3) (0 : Int32)) (fun u11 => q2 a0 x1 x2 (x3 + (1 : Int32)) u11)))
def L_X1_fill_2  : Nat → Nat → Int32 → Int32 → Int32 → gs_M → Option (gs_M)
  | 0 => fun _ _ _ _ _ => none
  | n + 1 => fun a0 x1 x2 x3 μ => Bo_X1_fill_2  (L_X1_fill_2  n) a0 x1 x2 x3 μ
def D_X1_fill (a0 : Nat) (x1 : Int32) (x2 : Int32) (μ : gs_M) : Option (gs_M) :=
  L_X1_fill_2 4096 a0 x1 x2 (0 : Int32) μ
section S_X1_fill
variable {p : Program} {l : Launch} {e : Env} {R : Room} {s : State} {m : MethodId} {args : Array Value} {below : List Frame} {meth : Method} {c : Code} {ad : Nat → Nat} {g : va_G} {tyc : Nat → ClassId}
set_option maxRecDepth 20000 in
theorem T_X1_fill_55  (hK : KC p R s m args meth c ad g tyc RX1 cX1_fill 4 none 4) {μ2 : gs_M}   {a0 : Nat} {μ : gs_M} (hk0 : kd a0 = 1) (hD : B_X1_fill_55  a0 μ = some μ2) : WJ p l e R s m args below meth c 0 0 (MQ below (gs_Q ad g tyc none μ2) args s 0 0 (gs_A ad)) ad g tyc 4 55 [.ref a0, gs_J, gs_J, gs_J] [] μ := by
  unfold B_X1_fill_55 at hD
  refine r_aload_n hK d_X1_fill_55 rfl rfl ?_
  obtain ⟨u2, e1, hD⟩ := bd0_e hD
  refine r_callV (As := []) (st := []) (stk2 := []) hK (C_X1_clearCounts hk0 e1) d_X1_fill_56 mf_X1_clearCounts ml_RX1_55 im_X1_clearCounts rfl se_1_RX1_X1_clearCounts hk0 rfl (Nat.le_of_ble_eq_true rfl) (by decide) ⟨Nat.zero_le _, Nat.zero_le _⟩ rfl rfl ?_
  cases hD
  exact r_vret hK d_X1_fill_59
set_option maxRecDepth 20000 in
theorem To_X1_fill_2  (hK : KC p R s m args meth c ad g tyc RX1 cX1_fill 4 none 4) {μ2 : gs_M} {q2 : Nat → Int32 → Int32 → Int32 → gs_M → Option (gs_M)} (hq2 : ∀ (a0 : Nat) (x1 : Int32) (x2 : Int32) (x3 : Int32) (μ : gs_M), kd a0 = 1 → q2 a0 x1 x2 x3 μ = some μ2 → WJ p l e R s m args below meth c 0 0 (MQ below (gs_Q ad g tyc none μ2) args s 0 0 (gs_A ad)) ad g tyc 4 2 [.ref a0, .int x1, .int x2, .int x3] [] μ) {a0 : Nat} {x1 : Int32} {x2 : Int32} {x3 : Int32} {μ : gs_M} (hk0 : kd a0 = 1) (hD : Bo_X1_fill_2 q2 a0 x1 x2 x3 μ = some μ2) : WJ p l e R s m args below meth c 0 0 (MQ below (gs_Q ad g tyc none μ2) args s 0 0 (gs_A ad)) ad g tyc 4 2 [.ref a0, .int x1, .int x2, .int x3] [] μ := by
  unfold Bo_X1_fill_2 at hD
  refine r_iload_n hK d_X1_fill_2 rfl rfl ?_
  refine r_bipush hK d_X1_fill_3 cb_12 ?_
  refine r_icmp_ge (tgt := 21) hK d_X1_fill_5 (by decide) (fun h1 => ?_) (fun h1 => ?_)
  · have hD := if_t hD h1
    refine r_aload_n hK d_X1_fill_21 rfl rfl ?_
    refine r_iconst hK d_X1_fill_22 ci_0 ?_
    refine r_putI hK d_X1_fill_23 fl_RX1_49_1 rfl rfl hk0 ?_
    refine r_ltm hD (fun u2 hD => ?_)
    refine r_aload_n hK d_X1_fill_26 rfl rfl ?_
    refine r_iconst hK d_X1_fill_27 ci_0 ?_
    refine r_putI hK d_X1_fill_28 fl_RX1_52_1 rfl rfl hk0 ?_
    refine r_ltm hD (fun u3 hD => ?_)
    refine r_aload_n hK d_X1_fill_31 rfl rfl ?_
    refine r_getI hK d_X1_fill_32 fl_RX1_15_1 rfl hk0 ?_
    refine r_if_le (tgt := 55) hK d_X1_fill_35 (by decide) (fun h4 => ?_) (fun h4 => ?_)
    · have hD := if_t hD h4
      refine r_junk [true, false, false, false] (ls2 := [.ref a0, gs_J, gs_J, gs_J]) rfl ?_
      exact T_X1_fill_55 hK  hk0 hD
    · have hD := if_f hD h4
      refine r_iload_n hK d_X1_fill_38 rfl rfl ?_
      refine r_if_eq (tgt := 50) hK d_X1_fill_39 (by decide) (fun h5 => ?_) (fun h5 => ?_)
      · have hD := if_t hD h5
        refine r_aload_n hK d_X1_fill_50 rfl rfl ?_
        refine r_iload_n hK d_X1_fill_51 rfl rfl ?_
        obtain ⟨u7, e6, hD⟩ := bd0_e hD
        refine r_callV (As := [.int x1]) (st := []) (stk2 := []) hK (C_X1_pourOntoMiddle hk0 e6) d_X1_fill_52 mf_X1_pourOntoMiddle ml_RX1_68 im_X1_pourOntoMiddle rfl se_1_RX1_X1_pourOntoMiddle hk0 rfl (Nat.le_of_ble_eq_true rfl) (by decide) ⟨Nat.zero_le _, Nat.zero_le _⟩ rfl rfl ?_
        refine r_junk [true, false, false, false] (ls2 := [.ref a0, gs_J, gs_J, gs_J]) rfl ?_
        exact T_X1_fill_55 hK  hk0 hD
      · have hD := if_f hD h5
        refine r_aload_n hK d_X1_fill_42 rfl rfl ?_
        refine r_iload_n hK d_X1_fill_43 rfl rfl ?_
        obtain ⟨u9, e8, hD⟩ := bd0_e hD
        refine r_callV (As := [.int x1]) (st := []) (stk2 := []) hK (C_X1_layEvenly hk0 e8) d_X1_fill_44 mf_X1_layEvenly ml_RX1_64 im_X1_layEvenly rfl se_1_RX1_X1_layEvenly hk0 rfl (Nat.le_of_ble_eq_true rfl) (by decide) ⟨Nat.zero_le _, Nat.zero_le _⟩ rfl rfl ?_
        refine r_goto (tgt := 55) hK d_X1_fill_47 (by decide) ?_
        refine r_junk [true, false, false, false] (ls2 := [.ref a0, gs_J, gs_J, gs_J]) rfl ?_
        exact T_X1_fill_55 hK  hk0 hD
  · have hD := if_f hD h1
    refine r_aload_n hK d_X1_fill_8 rfl rfl ?_
    refine r_getR hK d_X1_fill_9 fl_RX1_9_1 rfl hk0 ?_
    refine r_ref (b := (a0 + 1)) ((ly_hold _ hk0).1) ?_
    refine r_iload_n hK d_X1_fill_12 rfl rfl ?_
    refine r_iconst hK d_X1_fill_13 ci_0 ?_
    obtain ⟨h10, hD⟩ := ck_e hD
    refine r_iast hK d_X1_fill_14 ((ly_hold _ hk0).2.1) ((ly_hold _ hk0).2.2) (inb_in h10) ?_
    refine r_ltm hD (fun u11 hD => ?_)
    refine r_iinc hK d_X1_fill_15 rfl (v := x3 + (1 : Int32)) (by rw [ci_1]) (by decide) (ls2 := [.ref a0, .int x1, .int x2, .int (x3 + (1 : Int32))]) rfl ?_
    refine r_goto (tgt := 2) hK d_X1_fill_18 (by decide) ?_
    exact hq2 _ _ _ _ _ hk0 hD
set_option maxRecDepth 20000 in
theorem TL_X1_fill_2  (hK : KC p R s m args meth c ad g tyc RX1 cX1_fill 4 none 4) {μ2 : gs_M}   : ∀ (n : Nat) (a0 : Nat) (x1 : Int32) (x2 : Int32) (x3 : Int32) (μ : gs_M), kd a0 = 1 → L_X1_fill_2  n a0 x1 x2 x3 μ = some μ2 → WJ p l e R s m args below meth c 0 0 (MQ below (gs_Q ad g tyc none μ2) args s 0 0 (gs_A ad)) ad g tyc 4 2 [.ref a0, .int x1, .int x2, .int x3] [] μ := by
  intro n
  induction n with
  | zero => intro a0 x1 x2 x3 μ hk0 hD; cases hD
  | succ n ih => intro a0 x1 x2 x3 μ hk0 hD; exact To_X1_fill_2 hK  ih hk0 hD
set_option maxRecDepth 20000 in
theorem C_X1_fill  {a0 : Nat} {x1 : Int32} {x2 : Int32} {μ : gs_M} {μ2 : gs_M} (hk0 : kd a0 = 1) (hD : D_X1_fill a0 x1 x2 μ = some μ2) : CALL yX1_fill cX1_fill 4 none 4 [.ref a0, .int x1, .int x2] μ none μ2 := by
  unfold D_X1_fill at hD
  refine gs_enter mf_X1_fill (Nat.le_of_ble_eq_true rfl) (ls := [.ref a0, .int x1, .int x2, gs_J]) rfl (fun p l e R s m args below meth c ad g tyc hK => ?_)
  have hK : KC p R s m args meth c ad g tyc RX1 cX1_fill 4 none 4 := hK
  refine r_iconst hK d_X1_fill_0 ci_0 ?_
  refine r_istore_n hK d_X1_fill_1 rfl (by decide) (ls2 := [.ref a0, .int x1, .int x2, .int (0 : Int32)]) rfl ?_
  exact TL_X1_fill_2 hK  _ _ _ _ _ _ hk0 hD
end S_X1_fill
theorem d_X1_tall_0 : gd cX1_tall 0 (.iload_n 1) 1 1 := ⟨by decide +kernel, rfl⟩
theorem d_X1_tall_1 : gd cX1_tall 1 (.iconst 0) 1 2 := ⟨by decide +kernel, rfl⟩
theorem d_X1_tall_2 : gd cX1_tall 2 (.aload_n 0) 1 3 := ⟨by decide +kernel, rfl⟩
theorem d_X1_tall_3 : gd cX1_tall 3 (.getfield 15) 3 6 := ⟨by decide +kernel, rfl⟩
theorem d_X1_tall_6 : gd cX1_tall 6 (.iconst 1) 1 7 := ⟨by decide +kernel, rfl⟩
theorem d_X1_tall_7 : gd cX1_tall 7 .isub 1 8 := ⟨by decide +kernel, rfl⟩
theorem d_X1_tall_8 : gd cX1_tall 8 (.invokestatic 78) 3 11 := ⟨by decide +kernel, rfl⟩
theorem d_X1_tall_11 : gd cX1_tall 11 (.ifCond .eq 23) 3 14 := ⟨by decide +kernel, rfl⟩
theorem d_X1_tall_14 : gd cX1_tall 14 (.aload_n 0) 1 15 := ⟨by decide +kernel, rfl⟩
theorem d_X1_tall_15 : gd cX1_tall 15 (.getfield 9) 3 18 := ⟨by decide +kernel, rfl⟩
theorem d_X1_tall_18 : gd cX1_tall 18 (.iload_n 1) 1 19 := ⟨by decide +kernel, rfl⟩
theorem d_X1_tall_19 : gd cX1_tall 19 .iaload 1 20 := ⟨by decide +kernel, rfl⟩
theorem d_X1_tall_20 : gd cX1_tall 20 (.bipush 100) 2 22 := ⟨by decide +kernel, rfl⟩
theorem d_X1_tall_22 : gd cX1_tall 22 (.aload_n 0) 1 23 := ⟨by decide +kernel, rfl⟩
theorem d_X1_tall_23 : gd cX1_tall 23 (.getfield 49) 3 26 := ⟨by decide +kernel, rfl⟩
theorem d_X1_tall_26 : gd cX1_tall 26 .isub 1 27 := ⟨by decide +kernel, rfl⟩
theorem d_X1_tall_27 : gd cX1_tall 27 .imul 1 28 := ⟨by decide +kernel, rfl⟩
theorem d_X1_tall_28 : gd cX1_tall 28 (.bipush 10) 2 30 := ⟨by decide +kernel, rfl⟩
theorem d_X1_tall_30 : gd cX1_tall 30 .idiv 1 31 := ⟨by decide +kernel, rfl⟩
theorem d_X1_tall_31 : gd cX1_tall 31 (.goto 4) 3 34 := ⟨by decide +kernel, rfl⟩
theorem d_X1_tall_34 : gd cX1_tall 34 (.iconst 0) 1 35 := ⟨by decide +kernel, rfl⟩
theorem d_X1_tall_35 : gd cX1_tall 35 .ireturn 1 36 := ⟨by decide +kernel, rfl⟩
def D_X1_tall (a0 : Nat) (x1 : Int32) (μ : gs_M) : Option (Int32 × gs_M) :=
  bd (D_X11_within x1 (0 : Int32) ((gI μ a0 1) - (1 : Int32)) μ) (fun v3 u2 => if v3 = 0 then (some ((0 : Int32), u2)) else (ck (inb x1 12) (some (((gI u2 (a0 + 1) (Int32.toNatClampNeg x1)) * ((100 : Int32) - (gI u2 a0 4))) / (10 : Int32), u2))))
section S_X1_tall
variable {p : Program} {l : Launch} {e : Env} {R : Room} {s : State} {m : MethodId} {args : Array Value} {below : List Frame} {meth : Method} {c : Code} {ad : Nat → Nat} {g : va_G} {tyc : Nat → ClassId}
set_option maxRecDepth 20000 in
theorem C_X1_tall  {a0 : Nat} {x1 : Int32} {μ : gs_M} {r : Int32} {μ2 : gs_M} (hk0 : kd a0 = 1) (hD : D_X1_tall a0 x1 μ = some (r, μ2)) : CALL yX1_tall cX1_tall 2 (some .int) 1 [.ref a0, .int x1] μ (some (.int r)) μ2 := by
  unfold D_X1_tall at hD
  refine gs_enter mf_X1_tall (Nat.le_of_ble_eq_true rfl) (ls := [.ref a0, .int x1]) rfl (fun p l e R s m args below meth c ad g tyc hK => ?_)
  have hK : KC p R s m args meth c ad g tyc RX1 cX1_tall 2 (some .int) 1 := hK
  refine r_iload_n hK d_X1_tall_0 rfl rfl ?_
  refine r_iconst hK d_X1_tall_1 ci_0 ?_
  refine r_aload_n hK d_X1_tall_2 rfl rfl ?_
  refine r_getI hK d_X1_tall_3 fl_RX1_15_1 rfl hk0 ?_
  refine r_iconst hK d_X1_tall_6 ci_1 ?_
  refine r_isub hK d_X1_tall_7 ?_
  obtain ⟨v3, u2, e1, hD⟩ := bd_e hD
  refine r_callSN (As := [.int x1, .int (0 : Int32), .int ((gI μ a0 1) - (1 : Int32))]) (st := []) (stk2 := [.int v3]) hK (C_X11_within  e1) d_X1_tall_8 mf_X11_within mn_RX1_78 ss_X11_within rfl (Nat.le_of_ble_eq_true rfl) (by decide) ⟨Nat.zero_le _, Nat.zero_le _⟩ rfl rfl ?_
  refine r_if_eq (tgt := 34) hK d_X1_tall_11 (by decide) (fun h4 => ?_) (fun h4 => ?_)
  · have hD := if_t hD h4
    refine r_iconst hK d_X1_tall_34 ci_0 ?_
    cases hD
    exact r_iret hK d_X1_tall_35
  · have hD := if_f hD h4
    refine r_aload_n hK d_X1_tall_14 rfl rfl ?_
    refine r_getR hK d_X1_tall_15 fl_RX1_9_1 rfl hk0 ?_
    refine r_ref (b := (a0 + 1)) ((ly_hold _ hk0).1) ?_
    refine r_iload_n hK d_X1_tall_18 rfl rfl ?_
    obtain ⟨h5, hD⟩ := ck_e hD
    refine r_iald hK d_X1_tall_19 ((ly_hold _ hk0).2.1) ((ly_hold _ hk0).2.2) (inb_in h5) ?_
    refine r_bipush hK d_X1_tall_20 cb_100 ?_
    refine r_aload_n hK d_X1_tall_22 rfl rfl ?_
    refine r_getI hK d_X1_tall_23 fl_RX1_49_1 rfl hk0 ?_
    refine r_isub hK d_X1_tall_26 ?_
    refine r_imul hK d_X1_tall_27 ?_
    refine r_bipush hK d_X1_tall_28 cb_10 ?_
    refine r_idiv hK d_X1_tall_30 (by decide) ?_
    refine r_goto (tgt := 35) hK d_X1_tall_31 (by decide) ?_
    cases hD
    exact r_iret hK d_X1_tall_35
end S_X1_tall
theorem d_X1_gap_0 : gd cX1_gap 0 (.iconst 0) 1 1 := ⟨by decide +kernel, rfl⟩
theorem d_X1_gap_1 : gd cX1_gap 1 (.istore_n 1) 1 2 := ⟨by decide +kernel, rfl⟩
theorem d_X1_gap_2 : gd cX1_gap 2 (.iconst 0) 1 3 := ⟨by decide +kernel, rfl⟩
theorem d_X1_gap_3 : gd cX1_gap 3 (.istore_n 2) 1 4 := ⟨by decide +kernel, rfl⟩
theorem d_X1_gap_4 : gd cX1_gap 4 (.iload_n 2) 1 5 := ⟨by decide +kernel, rfl⟩
theorem d_X1_gap_5 : gd cX1_gap 5 (.aload_n 0) 1 6 := ⟨by decide +kernel, rfl⟩
theorem d_X1_gap_6 : gd cX1_gap 6 (.getfield 15) 3 9 := ⟨by decide +kernel, rfl⟩
theorem d_X1_gap_9 : gd cX1_gap 9 (.if_icmp .ge 19) 3 12 := ⟨by decide +kernel, rfl⟩
theorem d_X1_gap_12 : gd cX1_gap 12 (.iload_n 1) 1 13 := ⟨by decide +kernel, rfl⟩
theorem d_X1_gap_13 : gd cX1_gap 13 (.aload_n 0) 1 14 := ⟨by decide +kernel, rfl⟩
theorem d_X1_gap_14 : gd cX1_gap 14 (.iload_n 2) 1 15 := ⟨by decide +kernel, rfl⟩
theorem d_X1_gap_15 : gd cX1_gap 15 (.invokevirtual 82) 3 18 := ⟨by decide +kernel, rfl⟩
theorem d_X1_gap_18 : gd cX1_gap 18 (.invokestatic 85) 3 21 := ⟨by decide +kernel, rfl⟩
theorem d_X1_gap_21 : gd cX1_gap 21 (.istore_n 1) 1 22 := ⟨by decide +kernel, rfl⟩
theorem d_X1_gap_22 : gd cX1_gap 22 (.iinc 2 1) 3 25 := ⟨by decide +kernel, rfl⟩
theorem d_X1_gap_25 : gd cX1_gap 25 (.goto (-21)) 3 28 := ⟨by decide +kernel, rfl⟩
theorem d_X1_gap_28 : gd cX1_gap 28 (.bipush 10) 2 30 := ⟨by decide +kernel, rfl⟩
theorem d_X1_gap_30 : gd cX1_gap 30 (.aload_n 0) 1 31 := ⟨by decide +kernel, rfl⟩
theorem d_X1_gap_31 : gd cX1_gap 31 (.getfield 19) 3 34 := ⟨by decide +kernel, rfl⟩
theorem d_X1_gap_34 : gd cX1_gap 34 .imul 1 35 := ⟨by decide +kernel, rfl⟩
theorem d_X1_gap_35 : gd cX1_gap 35 (.iload_n 1) 1 36 := ⟨by decide +kernel, rfl⟩
theorem d_X1_gap_36 : gd cX1_gap 36 .isub 1 37 := ⟨by decide +kernel, rfl⟩
theorem d_X1_gap_37 : gd cX1_gap 37 .ireturn 1 38 := ⟨by decide +kernel, rfl⟩
def Bo_X1_gap_4 (q4 : Nat → Int32 → Int32 → gs_M → Option (Int32 × gs_M)) (a0 : Nat) (x1 : Int32) (x2 : Int32) (μ : gs_M) : Option (Int32 × gs_M) :=
  if (gI μ a0 1) ≤ x2 then (some (((10 : Int32) * (gI μ a0 8)) - x1, μ)) else (bd (D_X1_tall a0 x2 μ) (fun v4 u3 => lt1 (if x1 < v4 then v4 else x1) (fun v5 => q4 a0 v5 (x2 + (1 : Int32)) u3)))
def L_X1_gap_4  : Nat → Nat → Int32 → Int32 → gs_M → Option (Int32 × gs_M)
  | 0 => fun _ _ _ _ => none
  | n + 1 => fun a0 x1 x2 μ => Bo_X1_gap_4  (L_X1_gap_4  n) a0 x1 x2 μ
def D_X1_gap (a0 : Nat) (μ : gs_M) : Option (Int32 × gs_M) :=
  L_X1_gap_4 4096 a0 (0 : Int32) (0 : Int32) μ
section S_X1_gap
variable {p : Program} {l : Launch} {e : Env} {R : Room} {s : State} {m : MethodId} {args : Array Value} {below : List Frame} {meth : Method} {c : Code} {ad : Nat → Nat} {g : va_G} {tyc : Nat → ClassId}
set_option maxRecDepth 20000 in
theorem To_X1_gap_4  (hK : KC p R s m args meth c ad g tyc RX1 cX1_gap 3 (some .int) 2) {r : Int32} {μ2 : gs_M} {q4 : Nat → Int32 → Int32 → gs_M → Option (Int32 × gs_M)} (hq4 : ∀ (a0 : Nat) (x1 : Int32) (x2 : Int32) (μ : gs_M), kd a0 = 1 → q4 a0 x1 x2 μ = some (r, μ2) → WJ p l e R s m args below meth c 0 0 (MQ below (gs_Q ad g tyc (some (.int r)) μ2) args s 0 0 (gs_A ad)) ad g tyc 3 4 [.ref a0, .int x1, .int x2] [] μ) {a0 : Nat} {x1 : Int32} {x2 : Int32} {μ : gs_M} (hk0 : kd a0 = 1) (hD : Bo_X1_gap_4 q4 a0 x1 x2 μ = some (r, μ2)) : WJ p l e R s m args below meth c 0 0 (MQ below (gs_Q ad g tyc (some (.int r)) μ2) args s 0 0 (gs_A ad)) ad g tyc 3 4 [.ref a0, .int x1, .int x2] [] μ := by
  unfold Bo_X1_gap_4 at hD
  refine r_iload_n hK d_X1_gap_4 rfl rfl ?_
  refine r_aload_n hK d_X1_gap_5 rfl rfl ?_
  refine r_getI hK d_X1_gap_6 fl_RX1_15_1 rfl hk0 ?_
  refine r_icmp_ge (tgt := 28) hK d_X1_gap_9 (by decide) (fun h1 => ?_) (fun h1 => ?_)
  · have hD := if_t hD h1
    refine r_bipush hK d_X1_gap_28 cb_10 ?_
    refine r_aload_n hK d_X1_gap_30 rfl rfl ?_
    refine r_getI hK d_X1_gap_31 fl_RX1_19_1 rfl hk0 ?_
    refine r_imul hK d_X1_gap_34 ?_
    refine r_iload_n hK d_X1_gap_35 rfl rfl ?_
    refine r_isub hK d_X1_gap_36 ?_
    cases hD
    exact r_iret hK d_X1_gap_37
  · have hD := if_f hD h1
    refine r_iload_n hK d_X1_gap_12 rfl rfl ?_
    refine r_aload_n hK d_X1_gap_13 rfl rfl ?_
    refine r_iload_n hK d_X1_gap_14 rfl rfl ?_
    obtain ⟨v4, u3, e2, hD⟩ := bd_e hD
    refine r_callV (As := [.int x2]) (st := [.int x1]) (stk2 := [.int v4, .int x1]) hK (C_X1_tall hk0 e2) d_X1_gap_15 mf_X1_tall ml_RX1_82 im_X1_tall rfl se_1_RX1_X1_tall hk0 rfl (Nat.le_of_ble_eq_true rfl) (by decide) ⟨Nat.zero_le _, Nat.zero_le _⟩ rfl rfl ?_
    refine r_mmax hK d_X1_gap_18 mm_RX1_85 ms_max mi_0 mc_max (Nat.le_of_ble_eq_true rfl) (by decide) ⟨Nat.zero_le _, Nat.zero_le _⟩ ?_
    refine r_lti hD (fun v5 hD => ?_)
    refine r_istore_n hK d_X1_gap_21 rfl (by decide) (ls2 := [.ref a0, .int v5, .int x2]) rfl ?_
    refine r_iinc hK d_X1_gap_22 rfl (v := x2 + (1 : Int32)) (by rw [ci_1]) (by decide) (ls2 := [.ref a0, .int v5, .int (x2 + (1 : Int32))]) rfl ?_
    refine r_goto (tgt := 4) hK d_X1_gap_25 (by decide) ?_
    exact hq4 _ _ _ _ hk0 hD
set_option maxRecDepth 20000 in
theorem TL_X1_gap_4  (hK : KC p R s m args meth c ad g tyc RX1 cX1_gap 3 (some .int) 2) {r : Int32} {μ2 : gs_M}   : ∀ (n : Nat) (a0 : Nat) (x1 : Int32) (x2 : Int32) (μ : gs_M), kd a0 = 1 → L_X1_gap_4  n a0 x1 x2 μ = some (r, μ2) → WJ p l e R s m args below meth c 0 0 (MQ below (gs_Q ad g tyc (some (.int r)) μ2) args s 0 0 (gs_A ad)) ad g tyc 3 4 [.ref a0, .int x1, .int x2] [] μ := by
  intro n
  induction n with
  | zero => intro a0 x1 x2 μ hk0 hD; cases hD
  | succ n ih => intro a0 x1 x2 μ hk0 hD; exact To_X1_gap_4 hK  ih hk0 hD
set_option maxRecDepth 20000 in
theorem C_X1_gap  {a0 : Nat} {μ : gs_M} {r : Int32} {μ2 : gs_M} (hk0 : kd a0 = 1) (hD : D_X1_gap a0 μ = some (r, μ2)) : CALL yX1_gap cX1_gap 3 (some .int) 2 [.ref a0] μ (some (.int r)) μ2 := by
  unfold D_X1_gap at hD
  refine gs_enter mf_X1_gap (Nat.le_of_ble_eq_true rfl) (ls := [.ref a0, gs_J, gs_J]) rfl (fun p l e R s m args below meth c ad g tyc hK => ?_)
  have hK : KC p R s m args meth c ad g tyc RX1 cX1_gap 3 (some .int) 2 := hK
  refine r_iconst hK d_X1_gap_0 ci_0 ?_
  refine r_istore_n hK d_X1_gap_1 rfl (by decide) (ls2 := [.ref a0, .int (0 : Int32), gs_J]) rfl ?_
  refine r_iconst hK d_X1_gap_2 ci_0 ?_
  refine r_istore_n hK d_X1_gap_3 rfl (by decide) (ls2 := [.ref a0, .int (0 : Int32), .int (0 : Int32)]) rfl ?_
  exact TL_X1_gap_4 hK  _ _ _ _ _ hk0 hD
end S_X1_gap
theorem d_X1_allUnits_0 : gd cX1_allUnits 0 (.iconst 0) 1 1 := ⟨by decide +kernel, rfl⟩
theorem d_X1_allUnits_1 : gd cX1_allUnits 1 (.istore_n 1) 1 2 := ⟨by decide +kernel, rfl⟩
theorem d_X1_allUnits_2 : gd cX1_allUnits 2 (.iconst 0) 1 3 := ⟨by decide +kernel, rfl⟩
theorem d_X1_allUnits_3 : gd cX1_allUnits 3 (.istore_n 2) 1 4 := ⟨by decide +kernel, rfl⟩
theorem d_X1_allUnits_4 : gd cX1_allUnits 4 (.iload_n 2) 1 5 := ⟨by decide +kernel, rfl⟩
theorem d_X1_allUnits_5 : gd cX1_allUnits 5 (.aload_n 0) 1 6 := ⟨by decide +kernel, rfl⟩
theorem d_X1_allUnits_6 : gd cX1_allUnits 6 (.getfield 15) 3 9 := ⟨by decide +kernel, rfl⟩
theorem d_X1_allUnits_9 : gd cX1_allUnits 9 (.if_icmp .ge 18) 3 12 := ⟨by decide +kernel, rfl⟩
theorem d_X1_allUnits_12 : gd cX1_allUnits 12 (.iload_n 1) 1 13 := ⟨by decide +kernel, rfl⟩
theorem d_X1_allUnits_13 : gd cX1_allUnits 13 (.aload_n 0) 1 14 := ⟨by decide +kernel, rfl⟩
theorem d_X1_allUnits_14 : gd cX1_allUnits 14 (.getfield 9) 3 17 := ⟨by decide +kernel, rfl⟩
theorem d_X1_allUnits_17 : gd cX1_allUnits 17 (.iload_n 2) 1 18 := ⟨by decide +kernel, rfl⟩
theorem d_X1_allUnits_18 : gd cX1_allUnits 18 .iaload 1 19 := ⟨by decide +kernel, rfl⟩
theorem d_X1_allUnits_19 : gd cX1_allUnits 19 .iadd 1 20 := ⟨by decide +kernel, rfl⟩
theorem d_X1_allUnits_20 : gd cX1_allUnits 20 (.istore_n 1) 1 21 := ⟨by decide +kernel, rfl⟩
theorem d_X1_allUnits_21 : gd cX1_allUnits 21 (.iinc 2 1) 3 24 := ⟨by decide +kernel, rfl⟩
theorem d_X1_allUnits_24 : gd cX1_allUnits 24 (.goto (-20)) 3 27 := ⟨by decide +kernel, rfl⟩
theorem d_X1_allUnits_27 : gd cX1_allUnits 27 (.iload_n 1) 1 28 := ⟨by decide +kernel, rfl⟩
theorem d_X1_allUnits_28 : gd cX1_allUnits 28 .ireturn 1 29 := ⟨by decide +kernel, rfl⟩
def Bo_X1_allUnits_4 (q4 : Nat → Int32 → Int32 → gs_M → Option (Int32 × gs_M)) (a0 : Nat) (x1 : Int32) (x2 : Int32) (μ : gs_M) : Option (Int32 × gs_M) :=
  if (gI μ a0 1) ≤ x2 then (some (x1, μ)) else (ck (inb x2 12) (lt1 (x1 + (gI μ (a0 + 1) (Int32.toNatClampNeg x2))) (fun v3 => q4 a0 v3 (x2 + (1 : Int32)) μ)))
def L_X1_allUnits_4  : Nat → Nat → Int32 → Int32 → gs_M → Option (Int32 × gs_M)
  | 0 => fun _ _ _ _ => none
  | n + 1 => fun a0 x1 x2 μ => Bo_X1_allUnits_4  (L_X1_allUnits_4  n) a0 x1 x2 μ
def D_X1_allUnits (a0 : Nat) (μ : gs_M) : Option (Int32 × gs_M) :=
  L_X1_allUnits_4 4096 a0 (0 : Int32) (0 : Int32) μ
section S_X1_allUnits
variable {p : Program} {l : Launch} {e : Env} {R : Room} {s : State} {m : MethodId} {args : Array Value} {below : List Frame} {meth : Method} {c : Code} {ad : Nat → Nat} {g : va_G} {tyc : Nat → ClassId}
set_option maxRecDepth 20000 in
theorem To_X1_allUnits_4  (hK : KC p R s m args meth c ad g tyc RX1 cX1_allUnits 3 (some .int) 0) {r : Int32} {μ2 : gs_M} {q4 : Nat → Int32 → Int32 → gs_M → Option (Int32 × gs_M)} (hq4 : ∀ (a0 : Nat) (x1 : Int32) (x2 : Int32) (μ : gs_M), kd a0 = 1 → q4 a0 x1 x2 μ = some (r, μ2) → WJ p l e R s m args below meth c 0 0 (MQ below (gs_Q ad g tyc (some (.int r)) μ2) args s 0 0 (gs_A ad)) ad g tyc 3 4 [.ref a0, .int x1, .int x2] [] μ) {a0 : Nat} {x1 : Int32} {x2 : Int32} {μ : gs_M} (hk0 : kd a0 = 1) (hD : Bo_X1_allUnits_4 q4 a0 x1 x2 μ = some (r, μ2)) : WJ p l e R s m args below meth c 0 0 (MQ below (gs_Q ad g tyc (some (.int r)) μ2) args s 0 0 (gs_A ad)) ad g tyc 3 4 [.ref a0, .int x1, .int x2] [] μ := by
  unfold Bo_X1_allUnits_4 at hD
  refine r_iload_n hK d_X1_allUnits_4 rfl rfl ?_
  refine r_aload_n hK d_X1_allUnits_5 rfl rfl ?_
  refine r_getI hK d_X1_allUnits_6 fl_RX1_15_1 rfl hk0 ?_
  refine r_icmp_ge (tgt := 27) hK d_X1_allUnits_9 (by decide) (fun h1 => ?_) (fun h1 => ?_)
  · have hD := if_t hD h1
    refine r_iload_n hK d_X1_allUnits_27 rfl rfl ?_
    cases hD
    exact r_iret hK d_X1_allUnits_28
  · have hD := if_f hD h1
    refine r_iload_n hK d_X1_allUnits_12 rfl rfl ?_
    refine r_aload_n hK d_X1_allUnits_13 rfl rfl ?_
    refine r_getR hK d_X1_allUnits_14 fl_RX1_9_1 rfl hk0 ?_
    refine r_ref (b := (a0 + 1)) ((ly_hold _ hk0).1) ?_
    refine r_iload_n hK d_X1_allUnits_17 rfl rfl ?_
    obtain ⟨h2, hD⟩ := ck_e hD
    refine r_iald hK d_X1_allUnits_18 ((ly_hold _ hk0).2.1) ((ly_hold _ hk0).2.2) (inb_in h2) ?_
    refine r_iadd hK d_X1_allUnits_19 ?_
    refine r_lti hD (fun v3 hD => ?_)
    refine r_istore_n hK d_X1_allUnits_20 rfl (by decide) (ls2 := [.ref a0, .int v3, .int x2]) rfl ?_
    refine r_iinc hK d_X1_allUnits_21 rfl (v := x2 + (1 : Int32)) (by rw [ci_1]) (by decide) (ls2 := [.ref a0, .int v3, .int (x2 + (1 : Int32))]) rfl ?_
    refine r_goto (tgt := 4) hK d_X1_allUnits_24 (by decide) ?_
    exact hq4 _ _ _ _ hk0 hD
set_option maxRecDepth 20000 in
theorem TL_X1_allUnits_4  (hK : KC p R s m args meth c ad g tyc RX1 cX1_allUnits 3 (some .int) 0) {r : Int32} {μ2 : gs_M}   : ∀ (n : Nat) (a0 : Nat) (x1 : Int32) (x2 : Int32) (μ : gs_M), kd a0 = 1 → L_X1_allUnits_4  n a0 x1 x2 μ = some (r, μ2) → WJ p l e R s m args below meth c 0 0 (MQ below (gs_Q ad g tyc (some (.int r)) μ2) args s 0 0 (gs_A ad)) ad g tyc 3 4 [.ref a0, .int x1, .int x2] [] μ := by
  intro n
  induction n with
  | zero => intro a0 x1 x2 μ hk0 hD; cases hD
  | succ n ih => intro a0 x1 x2 μ hk0 hD; exact To_X1_allUnits_4 hK  ih hk0 hD
set_option maxRecDepth 20000 in
theorem C_X1_allUnits  {a0 : Nat} {μ : gs_M} {r : Int32} {μ2 : gs_M} (hk0 : kd a0 = 1) (hD : D_X1_allUnits a0 μ = some (r, μ2)) : CALL yX1_allUnits cX1_allUnits 3 (some .int) 0 [.ref a0] μ (some (.int r)) μ2 := by
  unfold D_X1_allUnits at hD
  refine gs_enter mf_X1_allUnits (Nat.le_of_ble_eq_true rfl) (ls := [.ref a0, gs_J, gs_J]) rfl (fun p l e R s m args below meth c ad g tyc hK => ?_)
  have hK : KC p R s m args meth c ad g tyc RX1 cX1_allUnits 3 (some .int) 0 := hK
  refine r_iconst hK d_X1_allUnits_0 ci_0 ?_
  refine r_istore_n hK d_X1_allUnits_1 rfl (by decide) (ls2 := [.ref a0, .int (0 : Int32), gs_J]) rfl ?_
  refine r_iconst hK d_X1_allUnits_2 ci_0 ?_
  refine r_istore_n hK d_X1_allUnits_3 rfl (by decide) (ls2 := [.ref a0, .int (0 : Int32), .int (0 : Int32)]) rfl ?_
  exact TL_X1_allUnits_4 hK  _ _ _ _ _ hk0 hD
end S_X1_allUnits
theorem d_X1_moment_0 : gd cX1_moment 0 (.iconst 0) 1 1 := ⟨by decide +kernel, rfl⟩
theorem d_X1_moment_1 : gd cX1_moment 1 (.istore_n 1) 1 2 := ⟨by decide +kernel, rfl⟩
theorem d_X1_moment_2 : gd cX1_moment 2 (.iconst 0) 1 3 := ⟨by decide +kernel, rfl⟩
theorem d_X1_moment_3 : gd cX1_moment 3 (.istore_n 2) 1 4 := ⟨by decide +kernel, rfl⟩
theorem d_X1_moment_4 : gd cX1_moment 4 (.iload_n 2) 1 5 := ⟨by decide +kernel, rfl⟩
theorem d_X1_moment_5 : gd cX1_moment 5 (.aload_n 0) 1 6 := ⟨by decide +kernel, rfl⟩
theorem d_X1_moment_6 : gd cX1_moment 6 (.getfield 15) 3 9 := ⟨by decide +kernel, rfl⟩
theorem d_X1_moment_9 : gd cX1_moment 9 (.if_icmp .ge 29) 3 12 := ⟨by decide +kernel, rfl⟩
theorem d_X1_moment_12 : gd cX1_moment 12 (.iload_n 1) 1 13 := ⟨by decide +kernel, rfl⟩
theorem d_X1_moment_13 : gd cX1_moment 13 (.aload_n 0) 1 14 := ⟨by decide +kernel, rfl⟩
theorem d_X1_moment_14 : gd cX1_moment 14 (.getfield 9) 3 17 := ⟨by decide +kernel, rfl⟩
theorem d_X1_moment_17 : gd cX1_moment 17 (.iload_n 2) 1 18 := ⟨by decide +kernel, rfl⟩
theorem d_X1_moment_18 : gd cX1_moment 18 .iaload 1 19 := ⟨by decide +kernel, rfl⟩
theorem d_X1_moment_19 : gd cX1_moment 19 (.iconst 2) 1 20 := ⟨by decide +kernel, rfl⟩
theorem d_X1_moment_20 : gd cX1_moment 20 (.iload_n 2) 1 21 := ⟨by decide +kernel, rfl⟩
theorem d_X1_moment_21 : gd cX1_moment 21 .imul 1 22 := ⟨by decide +kernel, rfl⟩
theorem d_X1_moment_22 : gd cX1_moment 22 (.iconst 1) 1 23 := ⟨by decide +kernel, rfl⟩
theorem d_X1_moment_23 : gd cX1_moment 23 .iadd 1 24 := ⟨by decide +kernel, rfl⟩
theorem d_X1_moment_24 : gd cX1_moment 24 (.aload_n 0) 1 25 := ⟨by decide +kernel, rfl⟩
theorem d_X1_moment_25 : gd cX1_moment 25 (.getfield 15) 3 28 := ⟨by decide +kernel, rfl⟩
theorem d_X1_moment_28 : gd cX1_moment 28 .isub 1 29 := ⟨by decide +kernel, rfl⟩
theorem d_X1_moment_29 : gd cX1_moment 29 .imul 1 30 := ⟨by decide +kernel, rfl⟩
theorem d_X1_moment_30 : gd cX1_moment 30 .iadd 1 31 := ⟨by decide +kernel, rfl⟩
theorem d_X1_moment_31 : gd cX1_moment 31 (.istore_n 1) 1 32 := ⟨by decide +kernel, rfl⟩
theorem d_X1_moment_32 : gd cX1_moment 32 (.iinc 2 1) 3 35 := ⟨by decide +kernel, rfl⟩
theorem d_X1_moment_35 : gd cX1_moment 35 (.goto (-31)) 3 38 := ⟨by decide +kernel, rfl⟩
theorem d_X1_moment_38 : gd cX1_moment 38 (.iload_n 1) 1 39 := ⟨by decide +kernel, rfl⟩
theorem d_X1_moment_39 : gd cX1_moment 39 (.aload_n 0) 1 40 := ⟨by decide +kernel, rfl⟩
theorem d_X1_moment_40 : gd cX1_moment 40 (.getfield 40) 3 43 := ⟨by decide +kernel, rfl⟩
theorem d_X1_moment_43 : gd cX1_moment 43 .imul 1 44 := ⟨by decide +kernel, rfl⟩
theorem d_X1_moment_44 : gd cX1_moment 44 .ireturn 1 45 := ⟨by decide +kernel, rfl⟩
def Bo_X1_moment_4 (q4 : Nat → Int32 → Int32 → gs_M → Option (Int32 × gs_M)) (a0 : Nat) (x1 : Int32) (x2 : Int32) (μ : gs_M) : Option (Int32 × gs_M) :=
  if (gI μ a0 1) ≤ x2 then (some (x1 * (gI μ a0 13), μ)) else (ck (inb x2 12) (lt1 (x1 + ((gI μ (a0 + 1) (Int32.toNatClampNeg x2)) * ((((2 : Int32) * x2) + (1 : Int32)) - (gI μ a0 1)))) (fun v3 => q4 a0 v3 (x2 + (1 : Int32)) μ)))
def L_X1_moment_4  : Nat → Nat → Int32 → Int32 → gs_M → Option (Int32 × gs_M)
  | 0 => fun _ _ _ _ => none
  | n + 1 => fun a0 x1 x2 μ => Bo_X1_moment_4  (L_X1_moment_4  n) a0 x1 x2 μ
def D_X1_moment (a0 : Nat) (μ : gs_M) : Option (Int32 × gs_M) :=
  L_X1_moment_4 4096 a0 (0 : Int32) (0 : Int32) μ
section S_X1_moment
variable {p : Program} {l : Launch} {e : Env} {R : Room} {s : State} {m : MethodId} {args : Array Value} {below : List Frame} {meth : Method} {c : Code} {ad : Nat → Nat} {g : va_G} {tyc : Nat → ClassId}
set_option maxRecDepth 20000 in
theorem To_X1_moment_4  (hK : KC p R s m args meth c ad g tyc RX1 cX1_moment 3 (some .int) 0) {r : Int32} {μ2 : gs_M} {q4 : Nat → Int32 → Int32 → gs_M → Option (Int32 × gs_M)} (hq4 : ∀ (a0 : Nat) (x1 : Int32) (x2 : Int32) (μ : gs_M), kd a0 = 1 → q4 a0 x1 x2 μ = some (r, μ2) → WJ p l e R s m args below meth c 0 0 (MQ below (gs_Q ad g tyc (some (.int r)) μ2) args s 0 0 (gs_A ad)) ad g tyc 3 4 [.ref a0, .int x1, .int x2] [] μ) {a0 : Nat} {x1 : Int32} {x2 : Int32} {μ : gs_M} (hk0 : kd a0 = 1) (hD : Bo_X1_moment_4 q4 a0 x1 x2 μ = some (r, μ2)) : WJ p l e R s m args below meth c 0 0 (MQ below (gs_Q ad g tyc (some (.int r)) μ2) args s 0 0 (gs_A ad)) ad g tyc 3 4 [.ref a0, .int x1, .int x2] [] μ := by
  unfold Bo_X1_moment_4 at hD
  refine r_iload_n hK d_X1_moment_4 rfl rfl ?_
  refine r_aload_n hK d_X1_moment_5 rfl rfl ?_
  refine r_getI hK d_X1_moment_6 fl_RX1_15_1 rfl hk0 ?_
  refine r_icmp_ge (tgt := 38) hK d_X1_moment_9 (by decide) (fun h1 => ?_) (fun h1 => ?_)
  · have hD := if_t hD h1
    refine r_iload_n hK d_X1_moment_38 rfl rfl ?_
    refine r_aload_n hK d_X1_moment_39 rfl rfl ?_
    refine r_getI hK d_X1_moment_40 fl_RX1_40_1 rfl hk0 ?_
    refine r_imul hK d_X1_moment_43 ?_
    cases hD
    exact r_iret hK d_X1_moment_44
  · have hD := if_f hD h1
    refine r_iload_n hK d_X1_moment_12 rfl rfl ?_
    refine r_aload_n hK d_X1_moment_13 rfl rfl ?_
    refine r_getR hK d_X1_moment_14 fl_RX1_9_1 rfl hk0 ?_
    refine r_ref (b := (a0 + 1)) ((ly_hold _ hk0).1) ?_
    refine r_iload_n hK d_X1_moment_17 rfl rfl ?_
    obtain ⟨h2, hD⟩ := ck_e hD
    refine r_iald hK d_X1_moment_18 ((ly_hold _ hk0).2.1) ((ly_hold _ hk0).2.2) (inb_in h2) ?_
    refine r_iconst hK d_X1_moment_19 ci_2 ?_
    refine r_iload_n hK d_X1_moment_20 rfl rfl ?_
    refine r_imul hK d_X1_moment_21 ?_
    refine r_iconst hK d_X1_moment_22 ci_1 ?_
    refine r_iadd hK d_X1_moment_23 ?_
    refine r_aload_n hK d_X1_moment_24 rfl rfl ?_
    refine r_getI hK d_X1_moment_25 fl_RX1_15_1 rfl hk0 ?_
    refine r_isub hK d_X1_moment_28 ?_
    refine r_imul hK d_X1_moment_29 ?_
    refine r_iadd hK d_X1_moment_30 ?_
    refine r_lti hD (fun v3 hD => ?_)
    refine r_istore_n hK d_X1_moment_31 rfl (by decide) (ls2 := [.ref a0, .int v3, .int x2]) rfl ?_
    refine r_iinc hK d_X1_moment_32 rfl (v := x2 + (1 : Int32)) (by rw [ci_1]) (by decide) (ls2 := [.ref a0, .int v3, .int (x2 + (1 : Int32))]) rfl ?_
    refine r_goto (tgt := 4) hK d_X1_moment_35 (by decide) ?_
    exact hq4 _ _ _ _ hk0 hD
set_option maxRecDepth 20000 in
theorem TL_X1_moment_4  (hK : KC p R s m args meth c ad g tyc RX1 cX1_moment 3 (some .int) 0) {r : Int32} {μ2 : gs_M}   : ∀ (n : Nat) (a0 : Nat) (x1 : Int32) (x2 : Int32) (μ : gs_M), kd a0 = 1 → L_X1_moment_4  n a0 x1 x2 μ = some (r, μ2) → WJ p l e R s m args below meth c 0 0 (MQ below (gs_Q ad g tyc (some (.int r)) μ2) args s 0 0 (gs_A ad)) ad g tyc 3 4 [.ref a0, .int x1, .int x2] [] μ := by
  intro n
  induction n with
  | zero => intro a0 x1 x2 μ hk0 hD; cases hD
  | succ n ih => intro a0 x1 x2 μ hk0 hD; exact To_X1_moment_4 hK  ih hk0 hD
set_option maxRecDepth 20000 in
theorem C_X1_moment  {a0 : Nat} {μ : gs_M} {r : Int32} {μ2 : gs_M} (hk0 : kd a0 = 1) (hD : D_X1_moment a0 μ = some (r, μ2)) : CALL yX1_moment cX1_moment 3 (some .int) 0 [.ref a0] μ (some (.int r)) μ2 := by
  unfold D_X1_moment at hD
  refine gs_enter mf_X1_moment (Nat.le_of_ble_eq_true rfl) (ls := [.ref a0, gs_J, gs_J]) rfl (fun p l e R s m args below meth c ad g tyc hK => ?_)
  have hK : KC p R s m args meth c ad g tyc RX1 cX1_moment 3 (some .int) 0 := hK
  refine r_iconst hK d_X1_moment_0 ci_0 ?_
  refine r_istore_n hK d_X1_moment_1 rfl (by decide) (ls2 := [.ref a0, .int (0 : Int32), gs_J]) rfl ?_
  refine r_iconst hK d_X1_moment_2 ci_0 ?_
  refine r_istore_n hK d_X1_moment_3 rfl (by decide) (ls2 := [.ref a0, .int (0 : Int32), .int (0 : Int32)]) rfl ?_
  exact TL_X1_moment_4 hK  _ _ _ _ _ hk0 hD
end S_X1_moment
theorem d_X1_settleOneDay_0 : gd cX1_settleOneDay 0 (.aload_n 0) 1 1 := ⟨by decide +kernel, rfl⟩
theorem d_X1_settleOneDay_1 : gd cX1_settleOneDay 1 (.getfield 49) 3 4 := ⟨by decide +kernel, rfl⟩
theorem d_X1_settleOneDay_4 : gd cX1_settleOneDay 4 (.aload_n 0) 1 5 := ⟨by decide +kernel, rfl⟩
theorem d_X1_settleOneDay_5 : gd cX1_settleOneDay 5 (.getfield 31) 3 8 := ⟨by decide +kernel, rfl⟩
theorem d_X1_settleOneDay_8 : gd cX1_settleOneDay 8 (.if_icmp .ge 13) 3 11 := ⟨by decide +kernel, rfl⟩
theorem d_X1_settleOneDay_11 : gd cX1_settleOneDay 11 (.aload_n 0) 1 12 := ⟨by decide +kernel, rfl⟩
theorem d_X1_settleOneDay_12 : gd cX1_settleOneDay 12 .dup 1 13 := ⟨by decide +kernel, rfl⟩
theorem d_X1_settleOneDay_13 : gd cX1_settleOneDay 13 (.getfield 49) 3 16 := ⟨by decide +kernel, rfl⟩
theorem d_X1_settleOneDay_16 : gd cX1_settleOneDay 16 (.iconst 1) 1 17 := ⟨by decide +kernel, rfl⟩
theorem d_X1_settleOneDay_17 : gd cX1_settleOneDay 17 .iadd 1 18 := ⟨by decide +kernel, rfl⟩
theorem d_X1_settleOneDay_18 : gd cX1_settleOneDay 18 (.putfield 49) 3 21 := ⟨by decide +kernel, rfl⟩
theorem d_X1_settleOneDay_21 : gd cX1_settleOneDay 21 .return_ 1 22 := ⟨by decide +kernel, rfl⟩
def D_X1_settleOneDay (a0 : Nat) (μ : gs_M) : Option (gs_M) :=
  if (gI μ a0 10) ≤ (gI μ a0 4) then (some μ) else (lt1 (sI μ a0 4 ((gI μ a0 4) + (1 : Int32))) (fun u2 => some u2))
section S_X1_settleOneDay
variable {p : Program} {l : Launch} {e : Env} {R : Room} {s : State} {m : MethodId} {args : Array Value} {below : List Frame} {meth : Method} {c : Code} {ad : Nat → Nat} {g : va_G} {tyc : Nat → ClassId}
set_option maxRecDepth 20000 in
theorem C_X1_settleOneDay  {a0 : Nat} {μ : gs_M} {μ2 : gs_M} (hk0 : kd a0 = 1) (hD : D_X1_settleOneDay a0 μ = some μ2) : CALL yX1_settleOneDay cX1_settleOneDay 1 none 0 [.ref a0] μ none μ2 := by
  unfold D_X1_settleOneDay at hD
  refine gs_enter mf_X1_settleOneDay (Nat.le_of_ble_eq_true rfl) (ls := [.ref a0]) rfl (fun p l e R s m args below meth c ad g tyc hK => ?_)
  have hK : KC p R s m args meth c ad g tyc RX1 cX1_settleOneDay 1 none 0 := hK
  refine r_aload_n hK d_X1_settleOneDay_0 rfl rfl ?_
  refine r_getI hK d_X1_settleOneDay_1 fl_RX1_49_1 rfl hk0 ?_
  refine r_aload_n hK d_X1_settleOneDay_4 rfl rfl ?_
  refine r_getI hK d_X1_settleOneDay_5 fl_RX1_31_1 rfl hk0 ?_
  refine r_icmp_ge (tgt := 21) hK d_X1_settleOneDay_8 (by decide) (fun h1 => ?_) (fun h1 => ?_)
  · have hD := if_t hD h1
    cases hD
    exact r_vret hK d_X1_settleOneDay_21
  · have hD := if_f hD h1
    refine r_aload_n hK d_X1_settleOneDay_11 rfl rfl ?_
    refine r_dup hK d_X1_settleOneDay_12 rfl ?_
    refine r_getI hK d_X1_settleOneDay_13 fl_RX1_49_1 rfl hk0 ?_
    refine r_iconst hK d_X1_settleOneDay_16 ci_1 ?_
    refine r_iadd hK d_X1_settleOneDay_17 ?_
    refine r_putI hK d_X1_settleOneDay_18 fl_RX1_49_1 rfl rfl hk0 ?_
    refine r_ltm hD (fun u2 hD => ?_)
    cases hD
    exact r_vret hK d_X1_settleOneDay_21
end S_X1_settleOneDay
theorem d_X1_evenOut_0 : gd cX1_evenOut 0 (.iconst 0) 1 1 := ⟨by decide +kernel, rfl⟩
theorem d_X1_evenOut_1 : gd cX1_evenOut 1 (.istore_n 1) 1 2 := ⟨by decide +kernel, rfl⟩
theorem d_X1_evenOut_2 : gd cX1_evenOut 2 (.iconst 0) 1 3 := ⟨by decide +kernel, rfl⟩
theorem d_X1_evenOut_3 : gd cX1_evenOut 3 (.istore_n 2) 1 4 := ⟨by decide +kernel, rfl⟩
theorem d_X1_evenOut_4 : gd cX1_evenOut 4 (.iconst 1) 1 5 := ⟨by decide +kernel, rfl⟩
theorem d_X1_evenOut_5 : gd cX1_evenOut 5 (.istore_n 3) 1 6 := ⟨by decide +kernel, rfl⟩
theorem d_X1_evenOut_6 : gd cX1_evenOut 6 (.iload_n 3) 1 7 := ⟨by decide +kernel, rfl⟩
theorem d_X1_evenOut_7 : gd cX1_evenOut 7 (.aload_n 0) 1 8 := ⟨by decide +kernel, rfl⟩
theorem d_X1_evenOut_8 : gd cX1_evenOut 8 (.getfield 15) 3 11 := ⟨by decide +kernel, rfl⟩
theorem d_X1_evenOut_11 : gd cX1_evenOut 11 (.if_icmp .ge 51) 3 14 := ⟨by decide +kernel, rfl⟩
theorem d_X1_evenOut_14 : gd cX1_evenOut 14 (.aload_n 0) 1 15 := ⟨by decide +kernel, rfl⟩
theorem d_X1_evenOut_15 : gd cX1_evenOut 15 (.getfield 9) 3 18 := ⟨by decide +kernel, rfl⟩
theorem d_X1_evenOut_18 : gd cX1_evenOut 18 (.iload_n 3) 1 19 := ⟨by decide +kernel, rfl⟩
theorem d_X1_evenOut_19 : gd cX1_evenOut 19 .iaload 1 20 := ⟨by decide +kernel, rfl⟩
theorem d_X1_evenOut_20 : gd cX1_evenOut 20 (.aload_n 0) 1 21 := ⟨by decide +kernel, rfl⟩
theorem d_X1_evenOut_21 : gd cX1_evenOut 21 (.getfield 9) 3 24 := ⟨by decide +kernel, rfl⟩
theorem d_X1_evenOut_24 : gd cX1_evenOut 24 (.iload_n 1) 1 25 := ⟨by decide +kernel, rfl⟩
theorem d_X1_evenOut_25 : gd cX1_evenOut 25 .iaload 1 26 := ⟨by decide +kernel, rfl⟩
theorem d_X1_evenOut_26 : gd cX1_evenOut 26 (.if_icmp .le 7) 3 29 := ⟨by decide +kernel, rfl⟩
theorem d_X1_evenOut_29 : gd cX1_evenOut 29 (.iload_n 3) 1 30 := ⟨by decide +kernel, rfl⟩
theorem d_X1_evenOut_30 : gd cX1_evenOut 30 (.goto 4) 3 33 := ⟨by decide +kernel, rfl⟩
theorem d_X1_evenOut_33 : gd cX1_evenOut 33 (.iload_n 1) 1 34 := ⟨by decide +kernel, rfl⟩
theorem d_X1_evenOut_34 : gd cX1_evenOut 34 (.istore_n 1) 1 35 := ⟨by decide +kernel, rfl⟩
theorem d_X1_evenOut_35 : gd cX1_evenOut 35 (.aload_n 0) 1 36 := ⟨by decide +kernel, rfl⟩
theorem d_X1_evenOut_36 : gd cX1_evenOut 36 (.getfield 9) 3 39 := ⟨by decide +kernel, rfl⟩
theorem d_X1_evenOut_39 : gd cX1_evenOut 39 (.iload_n 3) 1 40 := ⟨by decide +kernel, rfl⟩
theorem d_X1_evenOut_40 : gd cX1_evenOut 40 .iaload 1 41 := ⟨by decide +kernel, rfl⟩
theorem d_X1_evenOut_41 : gd cX1_evenOut 41 (.aload_n 0) 1 42 := ⟨by decide +kernel, rfl⟩
theorem d_X1_evenOut_42 : gd cX1_evenOut 42 (.getfield 9) 3 45 := ⟨by decide +kernel, rfl⟩
theorem d_X1_evenOut_45 : gd cX1_evenOut 45 (.iload_n 2) 1 46 := ⟨by decide +kernel, rfl⟩
theorem d_X1_evenOut_46 : gd cX1_evenOut 46 .iaload 1 47 := ⟨by decide +kernel, rfl⟩
theorem d_X1_evenOut_47 : gd cX1_evenOut 47 (.if_icmp .ge 7) 3 50 := ⟨by decide +kernel, rfl⟩
theorem d_X1_evenOut_50 : gd cX1_evenOut 50 (.iload_n 3) 1 51 := ⟨by decide +kernel, rfl⟩
theorem d_X1_evenOut_51 : gd cX1_evenOut 51 (.goto 4) 3 54 := ⟨by decide +kernel, rfl⟩
theorem d_X1_evenOut_54 : gd cX1_evenOut 54 (.iload_n 2) 1 55 := ⟨by decide +kernel, rfl⟩
theorem d_X1_evenOut_55 : gd cX1_evenOut 55 (.istore_n 2) 1 56 := ⟨by decide +kernel, rfl⟩
theorem d_X1_evenOut_56 : gd cX1_evenOut 56 (.iinc 3 1) 3 59 := ⟨by decide +kernel, rfl⟩
theorem d_X1_evenOut_59 : gd cX1_evenOut 59 (.goto (-53)) 3 62 := ⟨by decide +kernel, rfl⟩
theorem d_X1_evenOut_62 : gd cX1_evenOut 62 (.aload_n 0) 1 63 := ⟨by decide +kernel, rfl⟩
theorem d_X1_evenOut_63 : gd cX1_evenOut 63 (.getfield 9) 3 66 := ⟨by decide +kernel, rfl⟩
theorem d_X1_evenOut_66 : gd cX1_evenOut 66 (.iload_n 1) 1 67 := ⟨by decide +kernel, rfl⟩
theorem d_X1_evenOut_67 : gd cX1_evenOut 67 .iaload 1 68 := ⟨by decide +kernel, rfl⟩
theorem d_X1_evenOut_68 : gd cX1_evenOut 68 (.aload_n 0) 1 69 := ⟨by decide +kernel, rfl⟩
theorem d_X1_evenOut_69 : gd cX1_evenOut 69 (.getfield 9) 3 72 := ⟨by decide +kernel, rfl⟩
theorem d_X1_evenOut_72 : gd cX1_evenOut 72 (.iload_n 2) 1 73 := ⟨by decide +kernel, rfl⟩
theorem d_X1_evenOut_73 : gd cX1_evenOut 73 .iaload 1 74 := ⟨by decide +kernel, rfl⟩
theorem d_X1_evenOut_74 : gd cX1_evenOut 74 .isub 1 75 := ⟨by decide +kernel, rfl⟩
theorem d_X1_evenOut_75 : gd cX1_evenOut 75 (.iconst 2) 1 76 := ⟨by decide +kernel, rfl⟩
theorem d_X1_evenOut_76 : gd cX1_evenOut 76 (.if_icmp .ge 5) 3 79 := ⟨by decide +kernel, rfl⟩
theorem d_X1_evenOut_79 : gd cX1_evenOut 79 (.iconst 0) 1 80 := ⟨by decide +kernel, rfl⟩
theorem d_X1_evenOut_80 : gd cX1_evenOut 80 .ireturn 1 81 := ⟨by decide +kernel, rfl⟩
theorem d_X1_evenOut_81 : gd cX1_evenOut 81 (.aload_n 0) 1 82 := ⟨by decide +kernel, rfl⟩
theorem d_X1_evenOut_82 : gd cX1_evenOut 82 (.getfield 9) 3 85 := ⟨by decide +kernel, rfl⟩
theorem d_X1_evenOut_85 : gd cX1_evenOut 85 (.iload_n 1) 1 86 := ⟨by decide +kernel, rfl⟩
theorem d_X1_evenOut_86 : gd cX1_evenOut 86 .dup2 1 87 := ⟨by decide +kernel, rfl⟩
theorem d_X1_evenOut_87 : gd cX1_evenOut 87 .iaload 1 88 := ⟨by decide +kernel, rfl⟩
theorem d_X1_evenOut_88 : gd cX1_evenOut 88 (.iconst 1) 1 89 := ⟨by decide +kernel, rfl⟩
theorem d_X1_evenOut_89 : gd cX1_evenOut 89 .isub 1 90 := ⟨by decide +kernel, rfl⟩
theorem d_X1_evenOut_90 : gd cX1_evenOut 90 .iastore 1 91 := ⟨by decide +kernel, rfl⟩
theorem d_X1_evenOut_91 : gd cX1_evenOut 91 (.aload_n 0) 1 92 := ⟨by decide +kernel, rfl⟩
theorem d_X1_evenOut_92 : gd cX1_evenOut 92 (.getfield 9) 3 95 := ⟨by decide +kernel, rfl⟩
theorem d_X1_evenOut_95 : gd cX1_evenOut 95 (.iload_n 2) 1 96 := ⟨by decide +kernel, rfl⟩
theorem d_X1_evenOut_96 : gd cX1_evenOut 96 .dup2 1 97 := ⟨by decide +kernel, rfl⟩
theorem d_X1_evenOut_97 : gd cX1_evenOut 97 .iaload 1 98 := ⟨by decide +kernel, rfl⟩
theorem d_X1_evenOut_98 : gd cX1_evenOut 98 (.iconst 1) 1 99 := ⟨by decide +kernel, rfl⟩
theorem d_X1_evenOut_99 : gd cX1_evenOut 99 .iadd 1 100 := ⟨by decide +kernel, rfl⟩
theorem d_X1_evenOut_100 : gd cX1_evenOut 100 .iastore 1 101 := ⟨by decide +kernel, rfl⟩
theorem d_X1_evenOut_101 : gd cX1_evenOut 101 (.iconst 1) 1 102 := ⟨by decide +kernel, rfl⟩
theorem d_X1_evenOut_102 : gd cX1_evenOut 102 .ireturn 1 103 := ⟨by decide +kernel, rfl⟩
def B_X1_evenOut_34 (q6 : Nat → Int32 → Int32 → Int32 → gs_M → Option (Int32 × gs_M)) (a0 : Nat) (x2 : Int32) (x3 : Int32) (xs0 : Int32) (μ : gs_M) : Option (Int32 × gs_M) :=
  ck (inb x3 12) (ck (inb x2 12) (if (gI μ (a0 + 1) (Int32.toNatClampNeg x2)) ≤ (gI μ (a0 + 1) (Int32.toNatClampNeg x3)) then (q6 a0 xs0 x2 (x3 + (1 : Int32)) μ) else (q6 a0 xs0 x3 (x3 + (1 : Int32)) μ)))
def Bo_X1_evenOut_6 (q6 : Nat → Int32 → Int32 → Int32 → gs_M → Option (Int32 × gs_M)) (a0 : Nat) (x1 : Int32) (x2 : Int32) (x3 : Int32) (μ : gs_M) : Option (Int32 × gs_M) :=
  if (gI μ a0 1) ≤ x3 then (ck (inb x1 12) (ck (inb x2 12) (if (2 : Int32) ≤ ((gI μ (a0 + 1) (Int32.toNatClampNeg x1)) - (gI μ (a0 + 1) (Int32.toNatClampNeg x2))) then (ck (inb x1 12) (ck (inb x1 12) (lt1 (sI μ (a0 + 1) (Int32.toNatClampNeg x1) ((gI μ (a0 + 1) (Int32.toNatClampNeg x1)) - (1 : Int32))) (fun u7 => ck (inb x2 12) (ck (inb x2 12) (lt1 (sI u7 (a0 + 1) (Int32.toNatClampNeg x2) ((gI u7 (a0 + 1) (Int32.toNatClampNeg x2)) + (1 : Int32))) (fun u10 => some ((1 : Int32), u10)))))))) else (some ((0 : Int32), μ))))) else (ck (inb x3 12) (ck (inb x1 12) (if (gI μ (a0 + 1) (Int32.toNatClampNeg x3)) ≤ (gI μ (a0 + 1) (Int32.toNatClampNeg x1)) then (B_X1_evenOut_34 q6 a0 x2 x3 x1 μ) else (B_X1_evenOut_34 q6 a0 x2 x3 x3 μ))))
def L_X1_evenOut_6  : Nat → Nat → Int32 → Int32 → Int32 → gs_M → Option (Int32 × gs_M)
  | 0 => fun _ _ _ _ _ => none
  | n + 1 => fun a0 x1 x2 x3 μ => Bo_X1_evenOut_6  (L_X1_evenOut_6  n) a0 x1 x2 x3 μ
def D_X1_evenOut (a0 : Nat) (μ : gs_M) : Option (Int32 × gs_M) :=
  L_X1_evenOut_6 4096 a0 (0 : Int32) (0 : Int32) (1 : Int32) μ
section S_X1_evenOut
variable {p : Program} {l : Launch} {e : Env} {R : Room} {s : State} {m : MethodId} {args : Array Value} {below : List Frame} {meth : Method} {c : Code} {ad : Nat → Nat} {g : va_G} {tyc : Nat → ClassId}
set_option maxRecDepth 20000 in
theorem T_X1_evenOut_34  (hK : KC p R s m args meth c ad g tyc RX1 cX1_evenOut 4 (some .boolean) 0) {r : Int32} {μ2 : gs_M} {q6 : Nat → Int32 → Int32 → Int32 → gs_M → Option (Int32 × gs_M)} (hq6 : ∀ (a0 : Nat) (x1 : Int32) (x2 : Int32) (x3 : Int32) (μ : gs_M), kd a0 = 1 → q6 a0 x1 x2 x3 μ = some (r, μ2) → WJ p l e R s m args below meth c 0 0 (MQ below (gs_Q ad g tyc (some (.int r)) μ2) args s 0 0 (gs_A ad)) ad g tyc 4 6 [.ref a0, .int x1, .int x2, .int x3] [] μ) {a0 : Nat} {x2 : Int32} {x3 : Int32} {xs0 : Int32} {μ : gs_M} (hk0 : kd a0 = 1) (hD : B_X1_evenOut_34 q6 a0 x2 x3 xs0 μ = some (r, μ2)) : WJ p l e R s m args below meth c 0 0 (MQ below (gs_Q ad g tyc (some (.int r)) μ2) args s 0 0 (gs_A ad)) ad g tyc 4 34 [.ref a0, gs_J, .int x2, .int x3] [.int xs0] μ := by
  unfold B_X1_evenOut_34 at hD
  refine r_istore_n hK d_X1_evenOut_34 rfl (by decide) (ls2 := [.ref a0, .int xs0, .int x2, .int x3]) rfl ?_
  refine r_aload_n hK d_X1_evenOut_35 rfl rfl ?_
  refine r_getR hK d_X1_evenOut_36 fl_RX1_9_1 rfl hk0 ?_
  refine r_ref (b := (a0 + 1)) ((ly_hold _ hk0).1) ?_
  refine r_iload_n hK d_X1_evenOut_39 rfl rfl ?_
  obtain ⟨h1, hD⟩ := ck_e hD
  refine r_iald hK d_X1_evenOut_40 ((ly_hold _ hk0).2.1) ((ly_hold _ hk0).2.2) (inb_in h1) ?_
  refine r_aload_n hK d_X1_evenOut_41 rfl rfl ?_
  refine r_getR hK d_X1_evenOut_42 fl_RX1_9_1 rfl hk0 ?_
  refine r_ref (b := (a0 + 1)) ((ly_hold _ hk0).1) ?_
  refine r_iload_n hK d_X1_evenOut_45 rfl rfl ?_
  obtain ⟨h2, hD⟩ := ck_e hD
  refine r_iald hK d_X1_evenOut_46 ((ly_hold _ hk0).2.1) ((ly_hold _ hk0).2.2) (inb_in h2) ?_
  refine r_icmp_ge (tgt := 54) hK d_X1_evenOut_47 (by decide) (fun h3 => ?_) (fun h3 => ?_)
  · have hD := if_t hD h3
    refine r_iload_n hK d_X1_evenOut_54 rfl rfl ?_
    refine r_istore_n hK d_X1_evenOut_55 rfl (by decide) (ls2 := [.ref a0, .int xs0, .int x2, .int x3]) rfl ?_
    refine r_iinc hK d_X1_evenOut_56 rfl (v := x3 + (1 : Int32)) (by rw [ci_1]) (by decide) (ls2 := [.ref a0, .int xs0, .int x2, .int (x3 + (1 : Int32))]) rfl ?_
    refine r_goto (tgt := 6) hK d_X1_evenOut_59 (by decide) ?_
    exact hq6 _ _ _ _ _ hk0 hD
  · have hD := if_f hD h3
    refine r_iload_n hK d_X1_evenOut_50 rfl rfl ?_
    refine r_goto (tgt := 55) hK d_X1_evenOut_51 (by decide) ?_
    refine r_istore_n hK d_X1_evenOut_55 rfl (by decide) (ls2 := [.ref a0, .int xs0, .int x3, .int x3]) rfl ?_
    refine r_iinc hK d_X1_evenOut_56 rfl (v := x3 + (1 : Int32)) (by rw [ci_1]) (by decide) (ls2 := [.ref a0, .int xs0, .int x3, .int (x3 + (1 : Int32))]) rfl ?_
    refine r_goto (tgt := 6) hK d_X1_evenOut_59 (by decide) ?_
    exact hq6 _ _ _ _ _ hk0 hD
set_option maxRecDepth 20000 in
theorem To_X1_evenOut_6  (hK : KC p R s m args meth c ad g tyc RX1 cX1_evenOut 4 (some .boolean) 0) {r : Int32} {μ2 : gs_M} {q6 : Nat → Int32 → Int32 → Int32 → gs_M → Option (Int32 × gs_M)} (hq6 : ∀ (a0 : Nat) (x1 : Int32) (x2 : Int32) (x3 : Int32) (μ : gs_M), kd a0 = 1 → q6 a0 x1 x2 x3 μ = some (r, μ2) → WJ p l e R s m args below meth c 0 0 (MQ below (gs_Q ad g tyc (some (.int r)) μ2) args s 0 0 (gs_A ad)) ad g tyc 4 6 [.ref a0, .int x1, .int x2, .int x3] [] μ) {a0 : Nat} {x1 : Int32} {x2 : Int32} {x3 : Int32} {μ : gs_M} (hk0 : kd a0 = 1) (hD : Bo_X1_evenOut_6 q6 a0 x1 x2 x3 μ = some (r, μ2)) : WJ p l e R s m args below meth c 0 0 (MQ below (gs_Q ad g tyc (some (.int r)) μ2) args s 0 0 (gs_A ad)) ad g tyc 4 6 [.ref a0, .int x1, .int x2, .int x3] [] μ := by
  unfold Bo_X1_evenOut_6 at hD
  refine r_iload_n hK d_X1_evenOut_6 rfl rfl ?_
  refine r_aload_n hK d_X1_evenOut_7 rfl rfl ?_
  refine r_getI hK d_X1_evenOut_8 fl_RX1_15_1 rfl hk0 ?_
  refine r_icmp_ge (tgt := 62) hK d_X1_evenOut_11 (by decide) (fun h1 => ?_) (fun h1 => ?_)
  · have hD := if_t hD h1
    refine r_aload_n hK d_X1_evenOut_62 rfl rfl ?_
    refine r_getR hK d_X1_evenOut_63 fl_RX1_9_1 rfl hk0 ?_
    refine r_ref (b := (a0 + 1)) ((ly_hold _ hk0).1) ?_
    refine r_iload_n hK d_X1_evenOut_66 rfl rfl ?_
    obtain ⟨h2, hD⟩ := ck_e hD
    refine r_iald hK d_X1_evenOut_67 ((ly_hold _ hk0).2.1) ((ly_hold _ hk0).2.2) (inb_in h2) ?_
    refine r_aload_n hK d_X1_evenOut_68 rfl rfl ?_
    refine r_getR hK d_X1_evenOut_69 fl_RX1_9_1 rfl hk0 ?_
    refine r_ref (b := (a0 + 1)) ((ly_hold _ hk0).1) ?_
    refine r_iload_n hK d_X1_evenOut_72 rfl rfl ?_
    obtain ⟨h3, hD⟩ := ck_e hD
    refine r_iald hK d_X1_evenOut_73 ((ly_hold _ hk0).2.1) ((ly_hold _ hk0).2.2) (inb_in h3) ?_
    refine r_isub hK d_X1_evenOut_74 ?_
    refine r_iconst hK d_X1_evenOut_75 ci_2 ?_
    refine r_icmp_ge (tgt := 81) hK d_X1_evenOut_76 (by decide) (fun h4 => ?_) (fun h4 => ?_)
    · have hD := if_t hD h4
      refine r_aload_n hK d_X1_evenOut_81 rfl rfl ?_
      refine r_getR hK d_X1_evenOut_82 fl_RX1_9_1 rfl hk0 ?_
      refine r_ref (b := (a0 + 1)) ((ly_hold _ hk0).1) ?_
      refine r_iload_n hK d_X1_evenOut_85 rfl rfl ?_
      refine r_dup2 hK d_X1_evenOut_86 rfl rfl ?_
      obtain ⟨h5, hD⟩ := ck_e hD
      refine r_iald hK d_X1_evenOut_87 ((ly_hold _ hk0).2.1) ((ly_hold _ hk0).2.2) (inb_in h5) ?_
      refine r_iconst hK d_X1_evenOut_88 ci_1 ?_
      refine r_isub hK d_X1_evenOut_89 ?_
      obtain ⟨h6, hD⟩ := ck_e hD
      refine r_iast hK d_X1_evenOut_90 ((ly_hold _ hk0).2.1) ((ly_hold _ hk0).2.2) (inb_in h6) ?_
      refine r_ltm hD (fun u7 hD => ?_)
      refine r_aload_n hK d_X1_evenOut_91 rfl rfl ?_
      refine r_getR hK d_X1_evenOut_92 fl_RX1_9_1 rfl hk0 ?_
      refine r_ref (b := (a0 + 1)) ((ly_hold _ hk0).1) ?_
      refine r_iload_n hK d_X1_evenOut_95 rfl rfl ?_
      refine r_dup2 hK d_X1_evenOut_96 rfl rfl ?_
      obtain ⟨h8, hD⟩ := ck_e hD
      refine r_iald hK d_X1_evenOut_97 ((ly_hold _ hk0).2.1) ((ly_hold _ hk0).2.2) (inb_in h8) ?_
      refine r_iconst hK d_X1_evenOut_98 ci_1 ?_
      refine r_iadd hK d_X1_evenOut_99 ?_
      obtain ⟨h9, hD⟩ := ck_e hD
      refine r_iast hK d_X1_evenOut_100 ((ly_hold _ hk0).2.1) ((ly_hold _ hk0).2.2) (inb_in h9) ?_
      refine r_ltm hD (fun u10 hD => ?_)
      refine r_iconst hK d_X1_evenOut_101 ci_1 ?_
      cases hD
      exact r_zret hK (Or.inr rfl) d_X1_evenOut_102
    · have hD := if_f hD h4
      refine r_iconst hK d_X1_evenOut_79 ci_0 ?_
      cases hD
      exact r_zret hK (Or.inl rfl) d_X1_evenOut_80
  · have hD := if_f hD h1
    refine r_aload_n hK d_X1_evenOut_14 rfl rfl ?_
    refine r_getR hK d_X1_evenOut_15 fl_RX1_9_1 rfl hk0 ?_
    refine r_ref (b := (a0 + 1)) ((ly_hold _ hk0).1) ?_
    refine r_iload_n hK d_X1_evenOut_18 rfl rfl ?_
    obtain ⟨h11, hD⟩ := ck_e hD
    refine r_iald hK d_X1_evenOut_19 ((ly_hold _ hk0).2.1) ((ly_hold _ hk0).2.2) (inb_in h11) ?_
    refine r_aload_n hK d_X1_evenOut_20 rfl rfl ?_
    refine r_getR hK d_X1_evenOut_21 fl_RX1_9_1 rfl hk0 ?_
    refine r_ref (b := (a0 + 1)) ((ly_hold _ hk0).1) ?_
    refine r_iload_n hK d_X1_evenOut_24 rfl rfl ?_
    obtain ⟨h12, hD⟩ := ck_e hD
    refine r_iald hK d_X1_evenOut_25 ((ly_hold _ hk0).2.1) ((ly_hold _ hk0).2.2) (inb_in h12) ?_
    refine r_icmp_le (tgt := 33) hK d_X1_evenOut_26 (by decide) (fun h13 => ?_) (fun h13 => ?_)
    · have hD := if_t hD h13
      refine r_iload_n hK d_X1_evenOut_33 rfl rfl ?_
      refine r_junk [true, false, true, true] (ls2 := [.ref a0, gs_J, .int x2, .int x3]) rfl ?_
      exact T_X1_evenOut_34 hK hq6 hk0 hD
    · have hD := if_f hD h13
      refine r_iload_n hK d_X1_evenOut_29 rfl rfl ?_
      refine r_goto (tgt := 34) hK d_X1_evenOut_30 (by decide) ?_
      refine r_junk [true, false, true, true] (ls2 := [.ref a0, gs_J, .int x2, .int x3]) rfl ?_
      exact T_X1_evenOut_34 hK hq6 hk0 hD
set_option maxRecDepth 20000 in
theorem TL_X1_evenOut_6  (hK : KC p R s m args meth c ad g tyc RX1 cX1_evenOut 4 (some .boolean) 0) {r : Int32} {μ2 : gs_M}   : ∀ (n : Nat) (a0 : Nat) (x1 : Int32) (x2 : Int32) (x3 : Int32) (μ : gs_M), kd a0 = 1 → L_X1_evenOut_6  n a0 x1 x2 x3 μ = some (r, μ2) → WJ p l e R s m args below meth c 0 0 (MQ below (gs_Q ad g tyc (some (.int r)) μ2) args s 0 0 (gs_A ad)) ad g tyc 4 6 [.ref a0, .int x1, .int x2, .int x3] [] μ := by
  intro n
  induction n with
  | zero => intro a0 x1 x2 x3 μ hk0 hD; cases hD
  | succ n ih => intro a0 x1 x2 x3 μ hk0 hD; exact To_X1_evenOut_6 hK  ih hk0 hD
set_option maxRecDepth 20000 in
theorem C_X1_evenOut  {a0 : Nat} {μ : gs_M} {r : Int32} {μ2 : gs_M} (hk0 : kd a0 = 1) (hD : D_X1_evenOut a0 μ = some (r, μ2)) : CALL yX1_evenOut cX1_evenOut 4 (some .boolean) 0 [.ref a0] μ (some (.int r)) μ2 := by
  unfold D_X1_evenOut at hD
  refine gs_enter mf_X1_evenOut (Nat.le_of_ble_eq_true rfl) (ls := [.ref a0, gs_J, gs_J, gs_J]) rfl (fun p l e R s m args below meth c ad g tyc hK => ?_)
  have hK : KC p R s m args meth c ad g tyc RX1 cX1_evenOut 4 (some .boolean) 0 := hK
  refine r_iconst hK d_X1_evenOut_0 ci_0 ?_
  refine r_istore_n hK d_X1_evenOut_1 rfl (by decide) (ls2 := [.ref a0, .int (0 : Int32), gs_J, gs_J]) rfl ?_
  refine r_iconst hK d_X1_evenOut_2 ci_0 ?_
  refine r_istore_n hK d_X1_evenOut_3 rfl (by decide) (ls2 := [.ref a0, .int (0 : Int32), .int (0 : Int32), gs_J]) rfl ?_
  refine r_iconst hK d_X1_evenOut_4 ci_1 ?_
  refine r_istore_n hK d_X1_evenOut_5 rfl (by decide) (ls2 := [.ref a0, .int (0 : Int32), .int (0 : Int32), .int (1 : Int32)]) rfl ?_
  exact TL_X1_evenOut_6 hK  _ _ _ _ _ _ hk0 hD
end S_X1_evenOut
