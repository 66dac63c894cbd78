theorem mf_X8_signsIn : gs_MF yX8_signsIn cX8_signsIn 3 (some .int) 1 := ⟨gs_t 367 (by decide +kernel) (by decide +kernel), gs_t 2 (by decide +kernel) (by decide +kernel), by decide, by decide, by decide +kernel, by decide, by decide⟩
theorem fl_RX8_15_7 : gs_FL RX8 15 "GrainShift$Tape" 7 1 (RX8, TX8, 2) := ⟨rfl, by decide, gs_t 39 (by decide +kernel) (by decide +kernel), Or.inl rfl⟩
theorem fl_RX8_9_7 : gs_FL RX8 9 "GrainShift$Tape" 7 0 (RX8, TX8, 2) := ⟨rfl, by decide, gs_t 37 (by decide +kernel) (by decide +kernel), Or.inl rfl⟩
theorem mf_X8_putWord : gs_MF yX8_putWord cX8_putWord 4 none 1 := ⟨gs_t 371 (by decide +kernel) (by decide +kernel), gs_t 2 (by decide +kernel) (by decide +kernel), by decide, by decide, by decide +kernel, by decide, by decide⟩
theorem mf_X8_signAt : gs_MF yX8_signAt cX8_signAt 2 (some .int) 1 := ⟨gs_t 418 (by decide +kernel) (by decide +kernel), gs_t 2 (by decide +kernel) (by decide +kernel), by decide, by decide, by decide +kernel, by decide, by decide⟩
theorem fl_RX9_22_8 : gs_FL RX9 22 "GrainShift$Told" 8 3 (RX9, TX9, 4) := ⟨rfl, by decide, gs_t 107 (by decide +kernel) (by decide +kernel), Or.inl rfl⟩
theorem mf_X9_has : gs_MF yX9_has cX9_has 2 (some .boolean) 1 := ⟨gs_t 568 (by decide +kernel) (by decide +kernel), gs_t 6 (by decide +kernel) (by decide +kernel), by decide, by decide, by decide +kernel, by decide, by decide⟩
theorem se_8_RX9_X9_has : Cond.selects RX9 yX9_has yX9_has ∈ gs_tbl := gs_t 567 (by decide +kernel) (by decide +kernel)
theorem ml_RX9_25 : Cond.methodLink RX9 25 yX9_has ∈ gs_tbl := gs_t 573 (by decide +kernel) (by decide +kernel)
theorem im_X9_has : Cond.instanceMethod yX9_has ∈ gs_tbl := gs_t 566 (by decide +kernel) (by decide +kernel)
theorem fl_RX9_9_8 : gs_FL RX9 9 "GrainShift$Told" 8 1 (RX9, TX9, 4) := ⟨rfl, by decide, gs_t 105 (by decide +kernel) (by decide +kernel), Or.inl rfl⟩
theorem mf_X9_rowsOf : gs_MF yX9_rowsOf cX9_rowsOf 2 (some .int) 1 := ⟨gs_t 572 (by decide +kernel) (by decide +kernel), gs_t 6 (by decide +kernel) (by decide +kernel), by decide, by decide, by decide +kernel, by decide, by decide⟩
theorem mn_RX9_29 : Cond.methodLinkNest RX9 29 yX11_within "GrainShift" ∈ gs_nest := gs_n 578 (by decide +kernel) (by decide +kernel)
theorem fl_RX9_15_8 : gs_FL RX9 15 "GrainShift$Told" 8 2 (RX9, TX9, 4) := ⟨rfl, by decide, gs_t 106 (by decide +kernel) (by decide +kernel), Or.inl rfl⟩
theorem mf_X9_number : gs_MF yX9_number cX9_number 4 (some .int) 3 := ⟨gs_t 577 (by decide +kernel) (by decide +kernel), gs_t 6 (by decide +kernel) (by decide +kernel), by decide, by decide, by decide +kernel, by decide, by decide⟩
theorem fl_RX9_18_8 : gs_FL RX9 18 "GrainShift$Told" 8 0 (RX9, TX9, 4) := ⟨rfl, by decide, gs_t 104 (by decide +kernel) (by decide +kernel), Or.inl rfl⟩
theorem fl_RX9_33_2 : gs_FL RX9 33 "GrainShift$ItemReading" 2 4 (RX2, TX2, 6) := ⟨rfl, by decide, gs_t 58 (by decide +kernel) (by decide +kernel), Or.inl rfl⟩
theorem fl_RX9_37_2 : gs_FL RX9 37 "GrainShift$ItemReading" 2 3 (RX2, TX2, 6) := ⟨rfl, by decide, gs_t 56 (by decide +kernel) (by decide +kernel), Or.inl rfl⟩
theorem mf_X9_keep : gs_MF yX9_keep cX9_keep 3 (some .int) 1 := ⟨gs_t 556 (by decide +kernel) (by decide +kernel), gs_t 6 (by decide +kernel) (by decide +kernel), by decide, by decide, by decide +kernel, by decide, by decide⟩
theorem fl_RX3_18_3 : gs_FL RX3 18 "GrainShift$Pairs" 3 2 (RX3, TX3, 3) := ⟨rfl, by decide, gs_t 277 (by decide +kernel) (by decide +kernel), Or.inl rfl⟩
theorem fl_RX3_9_3 : gs_FL RX3 9 "GrainShift$Pairs" 3 0 (RX3, TX3, 3) := ⟨rfl, by decide, gs_t 273 (by decide +kernel) (by decide +kernel), Or.inl rfl⟩
theorem fl_RX3_15_3 : gs_FL RX3 15 "GrainShift$Pairs" 3 1 (RX3, TX3, 3) := ⟨rfl, by decide, gs_t 275 (by decide +kernel) (by decide +kernel), Or.inl rfl⟩
theorem mf_X3_keep : gs_MF yX3_keep cX3_keep 3 (some .int) 2 := ⟨gs_t 816 (by decide +kernel) (by decide +kernel), gs_t 11 (by decide +kernel) (by decide +kernel), by decide, by decide, by decide +kernel, by decide, by decide⟩
theorem fl_RX0_15_0 : gs_FL RX0 15 "GrainShift$Heap" 0 1 (RX0, TX0, 2) := ⟨rfl, by decide, gs_t 293 (by decide +kernel) (by decide +kernel), Or.inl rfl⟩
theorem fl_RX0_9_0 : gs_FL RX0 9 "GrainShift$Heap" 0 0 (RX0, TX0, 2) := ⟨rfl, by decide, gs_t 292 (by decide +kernel) (by decide +kernel), Or.inl rfl⟩
theorem mf_X0_keep : gs_MF yX0_keep cX0_keep 2 (some .int) 1 := ⟨gs_t 868 (by decide +kernel) (by decide +kernel), gs_t 12 (by decide +kernel) (by decide +kernel), by decide, by decide, by decide +kernel, by decide, by decide⟩
theorem mf_X0_noneAbove : gs_MF yX0_noneAbove cX0_noneAbove 4 (some .int) 1 := ⟨gs_t 884 (by decide +kernel) (by decide +kernel), gs_t 12 (by decide +kernel) (by decide +kernel), by decide, by decide, by decide +kernel, by decide, by decide⟩
theorem mf_X0_choices : gs_MF yX0_choices cX0_choices 5 (some .long) 2 := ⟨gs_t 880 (by decide +kernel) (by decide +kernel), gs_t 12 (by decide +kernel) (by decide +kernel), by decide, by decide, by decide +kernel, by decide, by decide⟩
theorem mn_RX0_19 : Cond.methodLinkNest RX0 19 yX11_within "GrainShift" ∈ gs_nest := gs_n 877 (by decide +kernel) (by decide +kernel)
theorem ml_RX0_23 : Cond.methodLink RX0 23 yX0_choices ∈ gs_tbl := gs_t 878 (by decide +kernel) (by decide +kernel)
theorem ss_X0_choices : Cond.static yX0_choices ∈ gs_tbl := gs_t 879 (by decide +kernel) (by decide +kernel)
theorem se_0_RX0_X0_noneAbove : Cond.selects RX0 yX0_noneAbove yX0_noneAbove ∈ gs_tbl := gs_t 883 (by decide +kernel) (by decide +kernel)
theorem ml_RX0_27 : Cond.methodLink RX0 27 yX0_noneAbove ∈ gs_tbl := gs_t 881 (by decide +kernel) (by decide +kernel)
theorem im_X0_noneAbove : Cond.instanceMethod yX0_noneAbove ∈ gs_tbl := gs_t 882 (by decide +kernel) (by decide +kernel)
theorem kl_RX0_31 : Cond.constantLong RX0 31 (1000000) ∈ gs_tbl := gs_t 885 (by decide +kernel) (by decide +kernel)
theorem mf_X0_missParts : gs_MF yX0_missParts cX0_missParts 5 (some .int) 2 := ⟨gs_t 876 (by decide +kernel) (by decide +kernel), gs_t 12 (by decide +kernel) (by decide +kernel), by decide, by decide, by decide +kernel, by decide, by decide⟩
theorem se_8_RX9_X9_number : Cond.selects RX9 yX9_number yX9_number ∈ gs_tbl := gs_t 576 (by decide +kernel) (by decide +kernel)
theorem ml_RX1_22 : Cond.methodLink RX1 22 yX9_number ∈ gs_tbl := gs_t 611 (by decide +kernel) (by decide +kernel)
theorem im_X9_number : Cond.instanceMethod yX9_number ∈ gs_tbl := gs_t 575 (by decide +kernel) (by decide +kernel)
theorem mf_X1_takeStuff : gs_MF yX1_takeStuff cX1_takeStuff 3 none 2 := ⟨gs_t 610 (by decide +kernel) (by decide +kernel), gs_t 10 (by decide +kernel) (by decide +kernel), by decide, by decide, by decide +kernel, by decide, by decide⟩
theorem d_X8_signsIn_0 : gd cX8_signsIn 0 (.iconst 0) 1 1 := ⟨by decide +kernel, rfl⟩
theorem d_X8_signsIn_1 : gd cX8_signsIn 1 (.istore_n 1) 1 2 := ⟨by decide +kernel, rfl⟩
theorem d_X8_signsIn_2 : gd cX8_signsIn 2 (.bipush 24) 2 4 := ⟨by decide +kernel, rfl⟩
theorem d_X8_signsIn_4 : gd cX8_signsIn 4 (.istore_n 2) 1 5 := ⟨by decide +kernel, rfl⟩
theorem d_X8_signsIn_5 : gd cX8_signsIn 5 (.iload_n 2) 1 6 := ⟨by decide +kernel, rfl⟩
theorem d_X8_signsIn_6 : gd cX8_signsIn 6 (.ifCond .lt 27) 3 9 := ⟨by decide +kernel, rfl⟩
theorem d_X8_signsIn_9 : gd cX8_signsIn 9 (.iload_n 1) 1 10 := ⟨by decide +kernel, rfl⟩
theorem d_X8_signsIn_10 : gd cX8_signsIn 10 (.iload_n 0) 1 11 := ⟨by decide +kernel, rfl⟩
theorem d_X8_signsIn_11 : gd cX8_signsIn 11 (.iload_n 2) 1 12 := ⟨by decide +kernel, rfl⟩
theorem d_X8_signsIn_12 : gd cX8_signsIn 12 .iushr 1 13 := ⟨by decide +kernel, rfl⟩
theorem d_X8_signsIn_13 : gd cX8_signsIn 13 (.sipush 255) 3 16 := ⟨by decide +kernel, rfl⟩
theorem d_X8_signsIn_16 : gd cX8_signsIn 16 .iand 1 17 := ⟨by decide +kernel, rfl⟩
theorem d_X8_signsIn_17 : gd cX8_signsIn 17 (.ifCond .eq 7) 3 20 := ⟨by decide +kernel, rfl⟩
theorem d_X8_signsIn_20 : gd cX8_signsIn 20 (.iconst 1) 1 21 := ⟨by decide +kernel, rfl⟩
theorem d_X8_signsIn_21 : gd cX8_signsIn 21 (.goto 4) 3 24 := ⟨by decide +kernel, rfl⟩
theorem d_X8_signsIn_24 : gd cX8_signsIn 24 (.iconst 0) 1 25 := ⟨by decide +kernel, rfl⟩
theorem d_X8_signsIn_25 : gd cX8_signsIn 25 .iadd 1 26 := ⟨by decide +kernel, rfl⟩
theorem d_X8_signsIn_26 : gd cX8_signsIn 26 (.istore_n 1) 1 27 := ⟨by decide +kernel, rfl⟩
theorem d_X8_signsIn_27 : gd cX8_signsIn 27 (.iinc 2 (-8)) 3 30 := ⟨by decide +kernel, rfl⟩
theorem d_X8_signsIn_30 : gd cX8_signsIn 30 (.goto (-25)) 3 33 := ⟨by decide +kernel, rfl⟩
theorem d_X8_signsIn_33 : gd cX8_signsIn 33 (.iload_n 1) 1 34 := ⟨by decide +kernel, rfl⟩
theorem d_X8_signsIn_34 : gd cX8_signsIn 34 .ireturn 1 35 := ⟨by decide +kernel, rfl⟩
def Bo_X8_signsIn_5 (q5 : Int32 → Int32 → Int32 → gs_M → Option (Int32 × gs_M)) (x0 : Int32) (x1 : Int32) (x2 : Int32) (μ : gs_M) : Option (Int32 × gs_M) :=
  if x2 < 0 then (some (x1, μ)) else (if (((Int32.toUInt32 x0 >>> (Int32.toUInt32 x2 &&& Int32.toUInt32 31)).toInt32) &&& (255 : Int32)) = 0 then (lt1 (x1 + (0 : Int32)) (fun v3 => q5 x0 v3 (x2 + (-8 : Int32)) μ)) else (lt1 (x1 + (1 : Int32)) (fun v4 => q5 x0 v4 (x2 + (-8 : Int32)) μ)))
def L_X8_signsIn_5  : Nat → Int32 → Int32 → Int32 → gs_M → Option (Int32 × gs_M)
  | 0 => fun _ _ _ _ => none
  | n + 1 => fun x0 x1 x2 μ => Bo_X8_signsIn_5  (L_X8_signsIn_5  n) x0 x1 x2 μ
def D_X8_signsIn (x0 : Int32) (μ : gs_M) : Option (Int32 × gs_M) :=
  L_X8_signsIn_5 4096 x0 (0 : Int32) (24 : Int32) μ
section S_X8_signsIn
variable {p : Program} {l : Launch} {e : Env} {R : Room} {s : State} {m : MethodId} {args : Array Value} {below : List Frame} {meth : Method} {c : Code} {ad : Nat → Nat} {g : va_G} {tyc : Nat → ClassId}
set_option maxRecDepth 20000 in
theorem To_X8_signsIn_5  (hK : KC p R s m args meth c ad g tyc RX8 cX8_signsIn 3 (some .int) 0) {r : Int32} {μ2 : gs_M} {q5 : Int32 → Int32 → Int32 → gs_M → Option (Int32 × gs_M)} (hq5 : ∀ (x0 : Int32) (x1 : Int32) (x2 : Int32) (μ : gs_M), q5 x0 x1 x2 μ = some (r, μ2) → WJ p l e R s m args below meth c 0 0 (MQ below (gs_Q ad g tyc (some (.int r)) μ2) args s 0 0 (gs_A ad)) ad g tyc 3 5 [.int x0, .int x1, .int x2] [] μ) {x0 : Int32} {x1 : Int32} {x2 : Int32} {μ : gs_M}  (hD : Bo_X8_signsIn_5 q5 x0 x1 x2 μ = some (r, μ2)) : WJ p l e R s m args below meth c 0 0 (MQ below (gs_Q ad g tyc (some (.int r)) μ2) args s 0 0 (gs_A ad)) ad g tyc 3 5 [.int x0, .int x1, .int x2] [] μ := by
  unfold Bo_X8_signsIn_5 at hD
  refine r_iload_n hK d_X8_signsIn_5 rfl rfl ?_
  refine r_if_lt (tgt := 33) hK d_X8_signsIn_6 (by decide) (fun h1 => ?_) (fun h1 => ?_)
  · have hD := if_t hD h1
    refine r_iload_n hK d_X8_signsIn_33 rfl rfl ?_
    cases hD
    exact r_iret hK d_X8_signsIn_34
  · have hD := if_f hD h1
    refine r_iload_n hK d_X8_signsIn_9 rfl rfl ?_
    refine r_iload_n hK d_X8_signsIn_10 rfl rfl ?_
    refine r_iload_n hK d_X8_signsIn_11 rfl rfl ?_
    refine r_iushr hK d_X8_signsIn_12 ?_
    refine r_sipush hK d_X8_signsIn_13 cs_255 ?_
    refine r_iand hK d_X8_signsIn_16 ?_
    refine r_if_eq (tgt := 24) hK d_X8_signsIn_17 (by decide) (fun h2 => ?_) (fun h2 => ?_)
    · have hD := if_t hD h2
      refine r_iconst hK d_X8_signsIn_24 ci_0 ?_
      refine r_iadd hK d_X8_signsIn_25 ?_
      refine r_lti hD (fun v3 hD => ?_)
      refine r_istore_n hK d_X8_signsIn_26 rfl (by decide) (ls2 := [.int x0, .int v3, .int x2]) rfl ?_
      refine r_iinc hK d_X8_signsIn_27 rfl (v := x2 + (-8 : Int32)) (by rw [ci_m8]) (by decide) (ls2 := [.int x0, .int v3, .int (x2 + (-8 : Int32))]) rfl ?_
      refine r_goto (tgt := 5) hK d_X8_signsIn_30 (by decide) ?_
      exact hq5 _ _ _ _  hD
    · have hD := if_f hD h2
      refine r_iconst hK d_X8_signsIn_20 ci_1 ?_
      refine r_goto (tgt := 25) hK d_X8_signsIn_21 (by decide) ?_
      refine r_iadd hK d_X8_signsIn_25 ?_
      refine r_lti hD (fun v4 hD => ?_)
      refine r_istore_n hK d_X8_signsIn_26 rfl (by decide) (ls2 := [.int x0, .int v4, .int x2]) rfl ?_
      refine r_iinc hK d_X8_signsIn_27 rfl (v := x2 + (-8 : Int32)) (by rw [ci_m8]) (by decide) (ls2 := [.int x0, .int v4, .int (x2 + (-8 : Int32))]) rfl ?_
      refine r_goto (tgt := 5) hK d_X8_signsIn_30 (by decide) ?_
      exact hq5 _ _ _ _  hD
set_option maxRecDepth 20000 in
theorem TL_X8_signsIn_5  (hK : KC p R s m args meth c ad g tyc RX8 cX8_signsIn 3 (some .int) 0) {r : Int32} {μ2 : gs_M}   : ∀ (n : Nat) (x0 : Int32) (x1 : Int32) (x2 : Int32) (μ : gs_M), L_X8_signsIn_5  n x0 x1 x2 μ = some (r, μ2) → WJ p l e R s m args below meth c 0 0 (MQ below (gs_Q ad g tyc (some (.int r)) μ2) args s 0 0 (gs_A ad)) ad g tyc 3 5 [.int x0, .int x1, .int x2] [] μ := by
  intro n
  induction n with
  | zero => intro x0 x1 x2 μ  hD; cases hD
  | succ n ih => intro x0 x1 x2 μ  hD; exact To_X8_signsIn_5 hK  ih  hD
set_option maxRecDepth 20000 in
theorem C_X8_signsIn  {x0 : Int32} {μ : gs_M} {r : Int32} {μ2 : gs_M}  (hD : D_X8_signsIn x0 μ = some (r, μ2)) : CALL yX8_signsIn cX8_signsIn 3 (some .int) 0 [.int x0] μ (some (.int r)) μ2 := by
  unfold D_X8_signsIn at hD
  refine gs_enter mf_X8_signsIn (Nat.le_of_ble_eq_true rfl) (ls := [.int x0, gs_J, gs_J]) rfl (fun p l e R s m args below meth c ad g tyc hK => ?_)
  have hK : KC p R s m args meth c ad g tyc RX8 cX8_signsIn 3 (some .int) 0 := hK
  refine r_iconst hK d_X8_signsIn_0 ci_0 ?_
  refine r_istore_n hK d_X8_signsIn_1 rfl (by decide) (ls2 := [.int x0, .int (0 : Int32), gs_J]) rfl ?_
  refine r_bipush hK d_X8_signsIn_2 cb_24 ?_
  refine r_istore_n hK d_X8_signsIn_4 rfl (by decide) (ls2 := [.int x0, .int (0 : Int32), .int (24 : Int32)]) rfl ?_
  exact TL_X8_signsIn_5 hK  _ _ _ _ _  hD
end S_X8_signsIn
theorem d_X8_putWord_0 : gd cX8_putWord 0 (.bipush 24) 2 2 := ⟨by decide +kernel, rfl⟩
theorem d_X8_putWord_2 : gd cX8_putWord 2 (.istore_n 2) 1 3 := ⟨by decide +kernel, rfl⟩
theorem d_X8_putWord_3 : gd cX8_putWord 3 (.iload_n 2) 1 4 := ⟨by decide +kernel, rfl⟩
theorem d_X8_putWord_4 : gd cX8_putWord 4 (.ifCond .lt 51) 3 7 := ⟨by decide +kernel, rfl⟩
theorem d_X8_putWord_7 : gd cX8_putWord 7 (.iload_n 1) 1 8 := ⟨by decide +kernel, rfl⟩
theorem d_X8_putWord_8 : gd cX8_putWord 8 (.iload_n 2) 1 9 := ⟨by decide +kernel, rfl⟩
theorem d_X8_putWord_9 : gd cX8_putWord 9 .iushr 1 10 := ⟨by decide +kernel, rfl⟩
theorem d_X8_putWord_10 : gd cX8_putWord 10 (.sipush 255) 3 13 := ⟨by decide +kernel, rfl⟩
theorem d_X8_putWord_13 : gd cX8_putWord 13 .iand 1 14 := ⟨by decide +kernel, rfl⟩
theorem d_X8_putWord_14 : gd cX8_putWord 14 (.istore_n 3) 1 15 := ⟨by decide +kernel, rfl⟩
theorem d_X8_putWord_15 : gd cX8_putWord 15 (.iload_n 3) 1 16 := ⟨by decide +kernel, rfl⟩
theorem d_X8_putWord_16 : gd cX8_putWord 16 (.ifCond .eq 33) 3 19 := ⟨by decide +kernel, rfl⟩
theorem d_X8_putWord_19 : gd cX8_putWord 19 (.aload_n 0) 1 20 := ⟨by decide +kernel, rfl⟩
theorem d_X8_putWord_20 : gd cX8_putWord 20 (.getfield 15) 3 23 := ⟨by decide +kernel, rfl⟩
theorem d_X8_putWord_23 : gd cX8_putWord 23 (.sipush 160) 3 26 := ⟨by decide +kernel, rfl⟩
theorem d_X8_putWord_26 : gd cX8_putWord 26 (.if_icmp .ge 23) 3 29 := ⟨by decide +kernel, rfl⟩
theorem d_X8_putWord_29 : gd cX8_putWord 29 (.aload_n 0) 1 30 := ⟨by decide +kernel, rfl⟩
theorem d_X8_putWord_30 : gd cX8_putWord 30 (.getfield 9) 3 33 := ⟨by decide +kernel, rfl⟩
theorem d_X8_putWord_33 : gd cX8_putWord 33 (.aload_n 0) 1 34 := ⟨by decide +kernel, rfl⟩
theorem d_X8_putWord_34 : gd cX8_putWord 34 (.getfield 15) 3 37 := ⟨by decide +kernel, rfl⟩
theorem d_X8_putWord_37 : gd cX8_putWord 37 (.iload_n 3) 1 38 := ⟨by decide +kernel, rfl⟩
theorem d_X8_putWord_38 : gd cX8_putWord 38 .iastore 1 39 := ⟨by decide +kernel, rfl⟩
theorem d_X8_putWord_39 : gd cX8_putWord 39 (.aload_n 0) 1 40 := ⟨by decide +kernel, rfl⟩
theorem d_X8_putWord_40 : gd cX8_putWord 40 .dup 1 41 := ⟨by decide +kernel, rfl⟩
theorem d_X8_putWord_41 : gd cX8_putWord 41 (.getfield 15) 3 44 := ⟨by decide +kernel, rfl⟩
theorem d_X8_putWord_44 : gd cX8_putWord 44 (.iconst 1) 1 45 := ⟨by decide +kernel, rfl⟩
theorem d_X8_putWord_45 : gd cX8_putWord 45 .iadd 1 46 := ⟨by decide +kernel, rfl⟩
theorem d_X8_putWord_46 : gd cX8_putWord 46 (.putfield 15) 3 49 := ⟨by decide +kernel, rfl⟩
theorem d_X8_putWord_49 : gd cX8_putWord 49 (.iinc 2 (-8)) 3 52 := ⟨by decide +kernel, rfl⟩
theorem d_X8_putWord_52 : gd cX8_putWord 52 (.goto (-49)) 3 55 := ⟨by decide +kernel, rfl⟩
theorem d_X8_putWord_55 : gd cX8_putWord 55 .return_ 1 56 := ⟨by decide +kernel, rfl⟩
def Bo_X8_putWord_3 (q3 : Int32 → Int32 → gs_M → Option (gs_M)) (x1 : Int32) (x2 : Int32) (μ : gs_M) : Option (gs_M) :=
  if x2 < 0 then (some μ) else (lt1 (((Int32.toUInt32 x1 >>> (Int32.toUInt32 x2 &&& Int32.toUInt32 31)).toInt32) &&& (255 : Int32)) (fun v2 => if v2 = 0 then (q3 x1 (x2 + (-8 : Int32)) μ) else (if (160 : Int32) ≤ (gI μ 1 1) then (q3 x1 (x2 + (-8 : Int32)) μ) else (ck (inb (gI μ 1 1) 160) (lt1 (sI μ 2 (Int32.toNatClampNeg (gI μ 1 1)) v2) (fun u6 => lt1 (sI u6 1 1 ((gI u6 1 1) + (1 : Int32))) (fun u7 => q3 x1 (x2 + (-8 : Int32)) u7)))))))
def L_X8_putWord_3  : Nat → Int32 → Int32 → gs_M → Option (gs_M)
  | 0 => fun _ _ _ => none
  | n + 1 => fun x1 x2 μ => Bo_X8_putWord_3  (L_X8_putWord_3  n) x1 x2 μ
def D_X8_putWord (x1 : Int32) (μ : gs_M) : Option (gs_M) :=
  L_X8_putWord_3 4096 x1 (24 : Int32) μ
section S_X8_putWord
variable {p : Program} {l : Launch} {e : Env} {R : Room} {s : State} {m : MethodId} {args : Array Value} {below : List Frame} {meth : Method} {c : Code} {ad : Nat → Nat} {g : va_G} {tyc : Nat → ClassId}
set_option maxRecDepth 20000 in
theorem To_X8_putWord_3  (hK : KC p R s m args meth c ad g tyc RX8 cX8_putWord 4 none 0) {μ2 : gs_M} {q3 : Int32 → Int32 → gs_M → Option (gs_M)} (hq3 : ∀ (x1 : Int32) (x2 : Int32) (μ : gs_M), q3 x1 x2 μ = some μ2 → WJ p l e R s m args below meth c 0 0 (MQ below (gs_Q ad g tyc none μ2) args s 0 0 (gs_A ad)) ad g tyc 4 3 [.ref 1, .int x1, .int x2, gs_J] [] μ) {x1 : Int32} {x2 : Int32} {μ : gs_M}  (hD : Bo_X8_putWord_3 q3 x1 x2 μ = some μ2) : WJ p l e R s m args below meth c 0 0 (MQ below (gs_Q ad g tyc none μ2) args s 0 0 (gs_A ad)) ad g tyc 4 3 [.ref 1, .int x1, .int x2, gs_J] [] μ := by
  unfold Bo_X8_putWord_3 at hD
  refine r_iload_n hK d_X8_putWord_3 rfl rfl ?_
  refine r_if_lt (tgt := 55) hK d_X8_putWord_4 (by decide) (fun h1 => ?_) (fun h1 => ?_)
  · have hD := if_t hD h1
    cases hD
    exact r_vret hK d_X8_putWord_55
  · have hD := if_f hD h1
    refine r_iload_n hK d_X8_putWord_7 rfl rfl ?_
    refine r_iload_n hK d_X8_putWord_8 rfl rfl ?_
    refine r_iushr hK d_X8_putWord_9 ?_
    refine r_sipush hK d_X8_putWord_10 cs_255 ?_
    refine r_iand hK d_X8_putWord_13 ?_
    refine r_lti hD (fun v2 hD => ?_)
    refine r_istore_n hK d_X8_putWord_14 rfl (by decide) (ls2 := [.ref 1, .int x1, .int x2, .int v2]) rfl ?_
    refine r_iload_n hK d_X8_putWord_15 rfl rfl ?_
    refine r_if_eq (tgt := 49) hK d_X8_putWord_16 (by decide) (fun h3 => ?_) (fun h3 => ?_)
    · have hD := if_t hD h3
      refine r_iinc hK d_X8_putWord_49 rfl (v := x2 + (-8 : Int32)) (by rw [ci_m8]) (by decide) (ls2 := [.ref 1, .int x1, .int (x2 + (-8 : Int32)), .int v2]) rfl ?_
      refine r_goto (tgt := 3) hK d_X8_putWord_52 (by decide) ?_
      refine r_junk [true, true, true, false] (ls2 := [.ref 1, .int x1, .int (x2 + (-8 : Int32)), gs_J]) rfl ?_
      exact hq3 _ _ _  hD
    · have hD := if_f hD h3
      refine r_aload_n hK d_X8_putWord_19 rfl rfl ?_
      refine r_getI hK d_X8_putWord_20 fl_RX8_15_7 rfl kd_1 ?_
      refine r_sipush hK d_X8_putWord_23 cs_160 ?_
      refine r_icmp_ge (tgt := 49) hK d_X8_putWord_26 (by decide) (fun h4 => ?_) (fun h4 => ?_)
      · have hD := if_t hD h4
        refine r_iinc hK d_X8_putWord_49 rfl (v := x2 + (-8 : Int32)) (by rw [ci_m8]) (by decide) (ls2 := [.ref 1, .int x1, .int (x2 + (-8 : Int32)), .int v2]) rfl ?_
        refine r_goto (tgt := 3) hK d_X8_putWord_52 (by decide) ?_
        refine r_junk [true, true, true, false] (ls2 := [.ref 1, .int x1, .int (x2 + (-8 : Int32)), gs_J]) rfl ?_
        exact hq3 _ _ _  hD
      · have hD := if_f hD h4
        refine r_aload_n hK d_X8_putWord_29 rfl rfl ?_
        refine r_getR hK d_X8_putWord_30 fl_RX8_9_7 rfl kd_1 ?_
        refine r_ref (b := 2) R0_1_0 ?_
        refine r_aload_n hK d_X8_putWord_33 rfl rfl ?_
        refine r_getI hK d_X8_putWord_34 fl_RX8_15_7 rfl kd_1 ?_
        refine r_iload_n hK d_X8_putWord_37 rfl rfl ?_
        obtain ⟨h5, hD⟩ := ck_e hD
        refine r_iast hK d_X8_putWord_38 kd_2 ln_2 (inb_in h5) ?_
        refine r_ltm hD (fun u6 hD => ?_)
        refine r_aload_n hK d_X8_putWord_39 rfl rfl ?_
        refine r_dup hK d_X8_putWord_40 rfl ?_
        refine r_getI hK d_X8_putWord_41 fl_RX8_15_7 rfl kd_1 ?_
        refine r_iconst hK d_X8_putWord_44 ci_1 ?_
        refine r_iadd hK d_X8_putWord_45 ?_
        refine r_putI hK d_X8_putWord_46 fl_RX8_15_7 rfl rfl kd_1 ?_
        refine r_ltm hD (fun u7 hD => ?_)
        refine r_iinc hK d_X8_putWord_49 rfl (v := x2 + (-8 : Int32)) (by rw [ci_m8]) (by decide) (ls2 := [.ref 1, .int x1, .int (x2 + (-8 : Int32)), .int v2]) rfl ?_
        refine r_goto (tgt := 3) hK d_X8_putWord_52 (by decide) ?_
        refine r_junk [true, true, true, false] (ls2 := [.ref 1, .int x1, .int (x2 + (-8 : Int32)), gs_J]) rfl ?_
        exact hq3 _ _ _  hD
set_option maxRecDepth 20000 in
theorem TL_X8_putWord_3  (hK : KC p R s m args meth c ad g tyc RX8 cX8_putWord 4 none 0) {μ2 : gs_M}   : ∀ (n : Nat) (x1 : Int32) (x2 : Int32) (μ : gs_M), L_X8_putWord_3  n x1 x2 μ = some μ2 → WJ p l e R s m args below meth c 0 0 (MQ below (gs_Q ad g tyc none μ2) args s 0 0 (gs_A ad)) ad g tyc 4 3 [.ref 1, .int x1, .int x2, gs_J] [] μ := by
  intro n
  induction n with
  | zero => intro x1 x2 μ  hD; cases hD
  | succ n ih => intro x1 x2 μ  hD; exact To_X8_putWord_3 hK  ih  hD
set_option maxRecDepth 20000 in
theorem C_X8_putWord  {x1 : Int32} {μ : gs_M} {μ2 : gs_M}  (hD : D_X8_putWord x1 μ = some μ2) : CALL yX8_putWord cX8_putWord 4 none 0 [.ref 1, .int x1] μ none μ2 := by
  unfold D_X8_putWord at hD
  refine gs_enter mf_X8_putWord (Nat.le_of_ble_eq_true rfl) (ls := [.ref 1, .int x1, gs_J, gs_J]) rfl (fun p l e R s m args below meth c ad g tyc hK => ?_)
  have hK : KC p R s m args meth c ad g tyc RX8 cX8_putWord 4 none 0 := hK
  refine r_bipush hK d_X8_putWord_0 cb_24 ?_
  refine r_istore_n hK d_X8_putWord_2 rfl (by decide) (ls2 := [.ref 1, .int x1, .int (24 : Int32), gs_J]) rfl ?_
  exact TL_X8_putWord_3 hK  _ _ _ _  hD
end S_X8_putWord
theorem d_X8_signAt_0 : gd cX8_signAt 0 (.iload_n 1) 1 1 := ⟨by decide +kernel, rfl⟩
theorem d_X8_signAt_1 : gd cX8_signAt 1 (.ifCond .lt 20) 3 4 := ⟨by decide +kernel, rfl⟩
theorem d_X8_signAt_4 : gd cX8_signAt 4 (.iload_n 1) 1 5 := ⟨by decide +kernel, rfl⟩
theorem d_X8_signAt_5 : gd cX8_signAt 5 (.aload_n 0) 1 6 := ⟨by decide +kernel, rfl⟩
theorem d_X8_signAt_6 : gd cX8_signAt 6 (.getfield 15) 3 9 := ⟨by decide +kernel, rfl⟩
theorem d_X8_signAt_9 : gd cX8_signAt 9 (.if_icmp .ge 12) 3 12 := ⟨by decide +kernel, rfl⟩
theorem d_X8_signAt_12 : gd cX8_signAt 12 (.aload_n 0) 1 13 := ⟨by decide +kernel, rfl⟩
theorem d_X8_signAt_13 : gd cX8_signAt 13 (.getfield 9) 3 16 := ⟨by decide +kernel, rfl⟩
theorem d_X8_signAt_16 : gd cX8_signAt 16 (.iload_n 1) 1 17 := ⟨by decide +kernel, rfl⟩
theorem d_X8_signAt_17 : gd cX8_signAt 17 .iaload 1 18 := ⟨by decide +kernel, rfl⟩
theorem d_X8_signAt_18 : gd cX8_signAt 18 (.goto 4) 3 21 := ⟨by decide +kernel, rfl⟩
theorem d_X8_signAt_21 : gd cX8_signAt 21 (.iconst (-1)) 1 22 := ⟨by decide +kernel, rfl⟩
theorem d_X8_signAt_22 : gd cX8_signAt 22 .ireturn 1 23 := ⟨by decide +kernel, rfl⟩
def B_X8_signAt_21   (μ : gs_M) : Option (Int32 × gs_M) :=
  some ((-1 : Int32), μ)
def D_X8_signAt (x1 : Int32) (μ : gs_M) : Option (Int32 × gs_M) :=
  if x1 < 0 then (B_X8_signAt_21 μ) else (if (gI μ 1 1) ≤ x1 then (B_X8_signAt_21 μ) else (ck (inb x1 160) (some (gI μ 2 (Int32.toNatClampNeg x1), μ))))
section S_X8_signAt
variable {p : Program} {l : Launch} {e : Env} {R : Room} {s : State} {m : MethodId} {args : Array Value} {below : List Frame} {meth : Method} {c : Code} {ad : Nat → Nat} {g : va_G} {tyc : Nat → ClassId}
set_option maxRecDepth 20000 in
theorem T_X8_signAt_21  (hK : KC p R s m args meth c ad g tyc RX8 cX8_signAt 2 (some .int) 0) {r : Int32} {μ2 : gs_M}    {μ : gs_M}  (hD : B_X8_signAt_21   μ = some (r, μ2)) : WJ p l e R s m args below meth c 0 0 (MQ below (gs_Q ad g tyc (some (.int r)) μ2) args s 0 0 (gs_A ad)) ad g tyc 2 21 [gs_J, gs_J] [] μ := by
  unfold B_X8_signAt_21 at hD
  refine r_iconst hK d_X8_signAt_21 ci_m1 ?_
  cases hD
  exact r_iret hK d_X8_signAt_22
set_option maxRecDepth 20000 in
theorem C_X8_signAt  {x1 : Int32} {μ : gs_M} {r : Int32} {μ2 : gs_M}  (hD : D_X8_signAt x1 μ = some (r, μ2)) : CALL yX8_signAt cX8_signAt 2 (some .int) 0 [.ref 1, .int x1] μ (some (.int r)) μ2 := by
  unfold D_X8_signAt at hD
  refine gs_enter mf_X8_signAt (Nat.le_of_ble_eq_true rfl) (ls := [.ref 1, .int x1]) rfl (fun p l e R s m args below meth c ad g tyc hK => ?_)
  have hK : KC p R s m args meth c ad g tyc RX8 cX8_signAt 2 (some .int) 0 := hK
  refine r_iload_n hK d_X8_signAt_0 rfl rfl ?_
  refine r_if_lt (tgt := 21) hK d_X8_signAt_1 (by decide) (fun h1 => ?_) (fun h1 => ?_)
  · have hD := if_t hD h1
    refine r_junk [false, false] (ls2 := [gs_J, gs_J]) rfl ?_
    exact T_X8_signAt_21 hK   hD
  · have hD := if_f hD h1
    refine r_iload_n hK d_X8_signAt_4 rfl rfl ?_
    refine r_aload_n hK d_X8_signAt_5 rfl rfl ?_
    refine r_getI hK d_X8_signAt_6 fl_RX8_15_7 rfl kd_1 ?_
    refine r_icmp_ge (tgt := 21) hK d_X8_signAt_9 (by decide) (fun h2 => ?_) (fun h2 => ?_)
    · have hD := if_t hD h2
      refine r_junk [false, false] (ls2 := [gs_J, gs_J]) rfl ?_
      exact T_X8_signAt_21 hK   hD
    · have hD := if_f hD h2
      refine r_aload_n hK d_X8_signAt_12 rfl rfl ?_
      refine r_getR hK d_X8_signAt_13 fl_RX8_9_7 rfl kd_1 ?_
      refine r_ref (b := 2) R0_1_0 ?_
      refine r_iload_n hK d_X8_signAt_16 rfl rfl ?_
      obtain ⟨h3, hD⟩ := ck_e hD
      refine r_iald hK d_X8_signAt_17 kd_2 ln_2 (inb_in h3) ?_
      refine r_goto (tgt := 22) hK d_X8_signAt_18 (by decide) ?_
      cases hD
      exact r_iret hK d_X8_signAt_22
end S_X8_signAt
theorem d_X9_has_0 : gd cX9_has 0 (.iload_n 1) 1 1 := ⟨by decide +kernel, rfl⟩
theorem d_X9_has_1 : gd cX9_has 1 (.ifCond .lt 15) 3 4 := ⟨by decide +kernel, rfl⟩
theorem d_X9_has_4 : gd cX9_has 4 (.iload_n 1) 1 5 := ⟨by decide +kernel, rfl⟩
theorem d_X9_has_5 : gd cX9_has 5 (.aload_n 0) 1 6 := ⟨by decide +kernel, rfl⟩
theorem d_X9_has_6 : gd cX9_has 6 (.getfield 22) 3 9 := ⟨by decide +kernel, rfl⟩
theorem d_X9_has_9 : gd cX9_has 9 (.if_icmp .ge 7) 3 12 := ⟨by decide +kernel, rfl⟩
theorem d_X9_has_12 : gd cX9_has 12 (.iconst 1) 1 13 := ⟨by decide +kernel, rfl⟩
theorem d_X9_has_13 : gd cX9_has 13 (.goto 4) 3 16 := ⟨by decide +kernel, rfl⟩
theorem d_X9_has_16 : gd cX9_has 16 (.iconst 0) 1 17 := ⟨by decide +kernel, rfl⟩
theorem d_X9_has_17 : gd cX9_has 17 .ireturn 1 18 := ⟨by decide +kernel, rfl⟩
def B_X9_has_16   (μ : gs_M) : Option (Int32 × gs_M) :=
  some ((0 : Int32), μ)
def D_X9_has (a0 : Nat) (x1 : Int32) (μ : gs_M) : Option (Int32 × gs_M) :=
  if x1 < 0 then (B_X9_has_16 μ) else (if (gI μ a0 3) ≤ x1 then (B_X9_has_16 μ) else (some ((1 : Int32), μ)))
section S_X9_has
variable {p : Program} {l : Launch} {e : Env} {R : Room} {s : State} {m : MethodId} {args : Array Value} {below : List Frame} {meth : Method} {c : Code} {ad : Nat → Nat} {g : va_G} {tyc : Nat → ClassId}
set_option maxRecDepth 20000 in
theorem T_X9_has_16  (hK : KC p R s m args meth c ad g tyc RX9 cX9_has 2 (some .boolean) 0) {r : Int32} {μ2 : gs_M}    {μ : gs_M}  (hD : B_X9_has_16   μ = some (r, μ2)) : WJ p l e R s m args below meth c 0 0 (MQ below (gs_Q ad g tyc (some (.int r)) μ2) args s 0 0 (gs_A ad)) ad g tyc 2 16 [gs_J, gs_J] [] μ := by
  unfold B_X9_has_16 at hD
  refine r_iconst hK d_X9_has_16 ci_0 ?_
  cases hD
  exact r_zret hK (Or.inl rfl) d_X9_has_17
set_option maxRecDepth 20000 in
theorem C_X9_has  {a0 : Nat} {x1 : Int32} {μ : gs_M} {r : Int32} {μ2 : gs_M} (hk0 : kd a0 = 8) (hD : D_X9_has a0 x1 μ = some (r, μ2)) : CALL yX9_has cX9_has 2 (some .boolean) 0 [.ref a0, .int x1] μ (some (.int r)) μ2 := by
  unfold D_X9_has at hD
  refine gs_enter mf_X9_has (Nat.le_of_ble_eq_true rfl) (ls := [.ref a0, .int x1]) rfl (fun p l e R s m args below meth c ad g tyc hK => ?_)
  have hK : KC p R s m args meth c ad g tyc RX9 cX9_has 2 (some .boolean) 0 := hK
  refine r_iload_n hK d_X9_has_0 rfl rfl ?_
  refine r_if_lt (tgt := 16) hK d_X9_has_1 (by decide) (fun h1 => ?_) (fun h1 => ?_)
  · have hD := if_t hD h1
    refine r_junk [false, false] (ls2 := [gs_J, gs_J]) rfl ?_
    exact T_X9_has_16 hK   hD
  · have hD := if_f hD h1
    refine r_iload_n hK d_X9_has_4 rfl rfl ?_
    refine r_aload_n hK d_X9_has_5 rfl rfl ?_
    refine r_getI hK d_X9_has_6 fl_RX9_22_8 rfl hk0 ?_
    refine r_icmp_ge (tgt := 16) hK d_X9_has_9 (by decide) (fun h2 => ?_) (fun h2 => ?_)
    · have hD := if_t hD h2
      refine r_junk [false, false] (ls2 := [gs_J, gs_J]) rfl ?_
      exact T_X9_has_16 hK   hD
    · have hD := if_f hD h2
      refine r_iconst hK d_X9_has_12 ci_1 ?_
      refine r_goto (tgt := 17) hK d_X9_has_13 (by decide) ?_
      cases hD
      exact r_zret hK (Or.inr rfl) d_X9_has_17
end S_X9_has
theorem d_X9_rowsOf_0 : gd cX9_rowsOf 0 (.aload_n 0) 1 1 := ⟨by decide +kernel, rfl⟩
theorem d_X9_rowsOf_1 : gd cX9_rowsOf 1 (.iload_n 1) 1 2 := ⟨by decide +kernel, rfl⟩
theorem d_X9_rowsOf_2 : gd cX9_rowsOf 2 (.invokevirtual 25) 3 5 := ⟨by decide +kernel, rfl⟩
theorem d_X9_rowsOf_5 : gd cX9_rowsOf 5 (.ifCond .eq 12) 3 8 := ⟨by decide +kernel, rfl⟩
theorem d_X9_rowsOf_8 : gd cX9_rowsOf 8 (.aload_n 0) 1 9 := ⟨by decide +kernel, rfl⟩
theorem d_X9_rowsOf_9 : gd cX9_rowsOf 9 (.getfield 9) 3 12 := ⟨by decide +kernel, rfl⟩
theorem d_X9_rowsOf_12 : gd cX9_rowsOf 12 (.iload_n 1) 1 13 := ⟨by decide +kernel, rfl⟩
theorem d_X9_rowsOf_13 : gd cX9_rowsOf 13 .iaload 1 14 := ⟨by decide +kernel, rfl⟩
theorem d_X9_rowsOf_14 : gd cX9_rowsOf 14 (.goto 4) 3 17 := ⟨by decide +kernel, rfl⟩
theorem d_X9_rowsOf_17 : gd cX9_rowsOf 17 (.iconst 0) 1 18 := ⟨by decide +kernel, rfl⟩
theorem d_X9_rowsOf_18 : gd cX9_rowsOf 18 .ireturn 1 19 := ⟨by decide +kernel, rfl⟩
def D_X9_rowsOf (a0 : Nat) (x1 : Int32) (μ : gs_M) : Option (Int32 × gs_M) :=
  bd (D_X9_has a0 x1 μ) (fun v3 u2 => if v3 = 0 then (some ((0 : Int32), u2)) else (ck (inb x1 6) (some (gI u2 (a0 + 1) (Int32.toNatClampNeg x1), u2))))
section S_X9_rowsOf
variable {p : Program} {l : Launch} {e : Env} {R : Room} {s : State} {m : MethodId} {args : Array Value} {below : List Frame} {meth : Method} {c : Code} {ad : Nat → Nat} {g : va_G} {tyc : Nat → ClassId}
set_option maxRecDepth 20000 in
theorem C_X9_rowsOf  {a0 : Nat} {x1 : Int32} {μ : gs_M} {r : Int32} {μ2 : gs_M} (hk0 : kd a0 = 8) (hD : D_X9_rowsOf a0 x1 μ = some (r, μ2)) : CALL yX9_rowsOf cX9_rowsOf 2 (some .int) 1 [.ref a0, .int x1] μ (some (.int r)) μ2 := by
  unfold D_X9_rowsOf at hD
  refine gs_enter mf_X9_rowsOf (Nat.le_of_ble_eq_true rfl) (ls := [.ref a0, .int x1]) rfl (fun p l e R s m args below meth c ad g tyc hK => ?_)
  have hK : KC p R s m args meth c ad g tyc RX9 cX9_rowsOf 2 (some .int) 1 := hK
  refine r_aload_n hK d_X9_rowsOf_0 rfl rfl ?_
  refine r_iload_n hK d_X9_rowsOf_1 rfl rfl ?_
  obtain ⟨v3, u2, e1, hD⟩ := bd_e hD
  refine r_callV (As := [.int x1]) (st := []) (stk2 := [.int v3]) hK (C_X9_has hk0 e1) d_X9_rowsOf_2 mf_X9_has ml_RX9_25 im_X9_has rfl se_8_RX9_X9_has hk0 rfl (Nat.le_of_ble_eq_true rfl) (by decide) ⟨Nat.zero_le _, Nat.zero_le _⟩ rfl rfl ?_
  refine r_if_eq (tgt := 17) hK d_X9_rowsOf_5 (by decide) (fun h4 => ?_) (fun h4 => ?_)
  · have hD := if_t hD h4
    refine r_iconst hK d_X9_rowsOf_17 ci_0 ?_
    cases hD
    exact r_iret hK d_X9_rowsOf_18
  · have hD := if_f hD h4
    refine r_aload_n hK d_X9_rowsOf_8 rfl rfl ?_
    refine r_getR hK d_X9_rowsOf_9 fl_RX9_9_8 rfl hk0 ?_
    refine r_ref (b := (a0 + 1)) ((ly_told _ hk0).1.1) ?_
    refine r_iload_n hK d_X9_rowsOf_12 rfl rfl ?_
    obtain ⟨h5, hD⟩ := ck_e hD
    refine r_iald hK d_X9_rowsOf_13 ((ly_told _ hk0).1.2.1) ((ly_told _ hk0).1.2.2) (inb_in h5) ?_
    refine r_goto (tgt := 18) hK d_X9_rowsOf_14 (by decide) ?_
    cases hD
    exact r_iret hK d_X9_rowsOf_18
end S_X9_rowsOf
theorem d_X9_number_0 : gd cX9_number 0 (.aload_n 0) 1 1 := ⟨by decide +kernel, rfl⟩
theorem d_X9_number_1 : gd cX9_number 1 (.iload_n 1) 1 2 := ⟨by decide +kernel, rfl⟩
theorem d_X9_number_2 : gd cX9_number 2 (.invokevirtual 25) 3 5 := ⟨by decide +kernel, rfl⟩
theorem d_X9_number_5 : gd cX9_number 5 (.ifCond .eq 26) 3 8 := ⟨by decide +kernel, rfl⟩
theorem d_X9_number_8 : gd cX9_number 8 (.iload_n 2) 1 9 := ⟨by decide +kernel, rfl⟩
theorem d_X9_number_9 : gd cX9_number 9 (.ifCond .lt 22) 3 12 := ⟨by decide +kernel, rfl⟩
theorem d_X9_number_12 : gd cX9_number 12 (.iload_n 2) 1 13 := ⟨by decide +kernel, rfl⟩
theorem d_X9_number_13 : gd cX9_number 13 (.aload_n 0) 1 14 := ⟨by decide +kernel, rfl⟩
theorem d_X9_number_14 : gd cX9_number 14 (.getfield 9) 3 17 := ⟨by decide +kernel, rfl⟩
theorem d_X9_number_17 : gd cX9_number 17 (.iload_n 1) 1 18 := ⟨by decide +kernel, rfl⟩
theorem d_X9_number_18 : gd cX9_number 18 .iaload 1 19 := ⟨by decide +kernel, rfl⟩
theorem d_X9_number_19 : gd cX9_number 19 (.if_icmp .ge 12) 3 22 := ⟨by decide +kernel, rfl⟩
theorem d_X9_number_22 : gd cX9_number 22 (.iload_n 3) 1 23 := ⟨by decide +kernel, rfl⟩
theorem d_X9_number_23 : gd cX9_number 23 (.iconst 0) 1 24 := ⟨by decide +kernel, rfl⟩
theorem d_X9_number_24 : gd cX9_number 24 (.iconst 4) 1 25 := ⟨by decide +kernel, rfl⟩
theorem d_X9_number_25 : gd cX9_number 25 (.invokestatic 29) 3 28 := ⟨by decide +kernel, rfl⟩
theorem d_X9_number_28 : gd cX9_number 28 (.ifCond .ne 5) 3 31 := ⟨by decide +kernel, rfl⟩
theorem d_X9_number_31 : gd cX9_number 31 (.iconst (-1)) 1 32 := ⟨by decide +kernel, rfl⟩
theorem d_X9_number_32 : gd cX9_number 32 .ireturn 1 33 := ⟨by decide +kernel, rfl⟩
theorem d_X9_number_33 : gd cX9_number 33 (.aload_n 0) 1 34 := ⟨by decide +kernel, rfl⟩
theorem d_X9_number_34 : gd cX9_number 34 (.getfield 15) 3 37 := ⟨by decide +kernel, rfl⟩
theorem d_X9_number_37 : gd cX9_number 37 (.iload_n 1) 1 38 := ⟨by decide +kernel, rfl⟩
theorem d_X9_number_38 : gd cX9_number 38 (.iconst 4) 1 39 := ⟨by decide +kernel, rfl⟩
theorem d_X9_number_39 : gd cX9_number 39 .imul 1 40 := ⟨by decide +kernel, rfl⟩
theorem d_X9_number_40 : gd cX9_number 40 (.iload_n 2) 1 41 := ⟨by decide +kernel, rfl⟩
theorem d_X9_number_41 : gd cX9_number 41 .iadd 1 42 := ⟨by decide +kernel, rfl⟩
theorem d_X9_number_42 : gd cX9_number 42 (.iconst 5) 1 43 := ⟨by decide +kernel, rfl⟩
theorem d_X9_number_43 : gd cX9_number 43 .imul 1 44 := ⟨by decide +kernel, rfl⟩
theorem d_X9_number_44 : gd cX9_number 44 (.iload_n 3) 1 45 := ⟨by decide +kernel, rfl⟩
theorem d_X9_number_45 : gd cX9_number 45 .iadd 1 46 := ⟨by decide +kernel, rfl⟩
theorem d_X9_number_46 : gd cX9_number 46 .iaload 1 47 := ⟨by decide +kernel, rfl⟩
theorem d_X9_number_47 : gd cX9_number 47 .ireturn 1 48 := ⟨by decide +kernel, rfl⟩
def D_X9_number (a0 : Nat) (x1 : Int32) (x2 : Int32) (x3 : Int32) (μ : gs_M) : Option (Int32 × gs_M) :=
  bd (D_X9_has a0 x1 μ) (fun v3 u2 => if v3 = 0 then (some ((-1 : Int32), u2)) else (if x2 < 0 then (some ((-1 : Int32), u2)) else (ck (inb x1 6) (if (gI u2 (a0 + 1) (Int32.toNatClampNeg x1)) ≤ x2 then (some ((-1 : Int32), u2)) else (bd (D_X11_within x3 (0 : Int32) (4 : Int32) u2) (fun v10 u9 => if v10 = 0 then (some ((-1 : Int32), u9)) else (ck (inb ((((x1 * (4 : Int32)) + x2) * (5 : Int32)) + x3) 120) (some (gI u9 (a0 + 2) (Int32.toNatClampNeg ((((x1 * (4 : Int32)) + x2) * (5 : Int32)) + x3)), u9)))))))))
section S_X9_number
variable {p : Program} {l : Launch} {e : Env} {R : Room} {s : State} {m : MethodId} {args : Array Value} {below : List Frame} {meth : Method} {c : Code} {ad : Nat → Nat} {g : va_G} {tyc : Nat → ClassId}
set_option maxRecDepth 20000 in
theorem C_X9_number  {a0 : Nat} {x1 : Int32} {x2 : Int32} {x3 : Int32} {μ : gs_M} {r : Int32} {μ2 : gs_M} (hk0 : kd a0 = 8) (hD : D_X9_number a0 x1 x2 x3 μ = some (r, μ2)) : CALL yX9_number cX9_number 4 (some .int) 1 [.ref a0, .int x1, .int x2, .int x3] μ (some (.int r)) μ2 := by
  unfold D_X9_number at hD
  refine gs_enter mf_X9_number (Nat.le_of_ble_eq_true rfl) (ls := [.ref a0, .int x1, .int x2, .int x3]) rfl (fun p l e R s m args below meth c ad g tyc hK => ?_)
  have hK : KC p R s m args meth c ad g tyc RX9 cX9_number 4 (some .int) 1 := hK
  refine r_aload_n hK d_X9_number_0 rfl rfl ?_
  refine r_iload_n hK d_X9_number_1 rfl rfl ?_
  obtain ⟨v3, u2, e1, hD⟩ := bd_e hD
  refine r_callV (As := [.int x1]) (st := []) (stk2 := [.int v3]) hK (C_X9_has hk0 e1) d_X9_number_2 mf_X9_has ml_RX9_25 im_X9_has rfl se_8_RX9_X9_has hk0 rfl (Nat.le_of_ble_eq_true rfl) (by decide) ⟨Nat.zero_le _, Nat.zero_le _⟩ rfl rfl ?_
  refine r_if_eq (tgt := 31) hK d_X9_number_5 (by decide) (fun h4 => ?_) (fun h4 => ?_)
  · have hD := if_t hD h4
    refine r_iconst hK d_X9_number_31 ci_m1 ?_
    cases hD
    exact r_iret hK d_X9_number_32
  · have hD := if_f hD h4
    refine r_iload_n hK d_X9_number_8 rfl rfl ?_
    refine r_if_lt (tgt := 31) hK d_X9_number_9 (by decide) (fun h5 => ?_) (fun h5 => ?_)
    · have hD := if_t hD h5
      refine r_iconst hK d_X9_number_31 ci_m1 ?_
      cases hD
      exact r_iret hK d_X9_number_32
    · have hD := if_f hD h5
      refine r_iload_n hK d_X9_number_12 rfl rfl ?_
      refine r_aload_n hK d_X9_number_13 rfl rfl ?_
      refine r_getR hK d_X9_number_14 fl_RX9_9_8 rfl hk0 ?_
      refine r_ref (b := (a0 + 1)) ((ly_told _ hk0).1.1) ?_
      refine r_iload_n hK d_X9_number_17 rfl rfl ?_
      obtain ⟨h6, hD⟩ := ck_e hD
      refine r_iald hK d_X9_number_18 ((ly_told _ hk0).1.2.1) ((ly_told _ hk0).1.2.2) (inb_in h6) ?_
      refine r_icmp_ge (tgt := 31) hK d_X9_number_19 (by decide) (fun h7 => ?_) (fun h7 => ?_)
      · have hD := if_t hD h7
        refine r_iconst hK d_X9_number_31 ci_m1 ?_
        cases hD
        exact r_iret hK d_X9_number_32
      · have hD := if_f hD h7
        refine r_iload_n hK d_X9_number_22 rfl rfl ?_
        refine r_iconst hK d_X9_number_23 ci_0 ?_
        refine r_iconst hK d_X9_number_24 ci_4 ?_
        obtain ⟨v10, u9, e8, hD⟩ := bd_e hD
        refine r_callSN (As := [.int x3, .int (0 : Int32), .int (4 : Int32)]) (st := []) (stk2 := [.int v10]) hK (C_X11_within  e8) d_X9_number_25 mf_X11_within mn_RX9_29 ss_X11_within rfl (Nat.le_of_ble_eq_true rfl) (by decide) ⟨Nat.zero_le _, Nat.zero_le _⟩ rfl rfl ?_
        refine r_if_ne (tgt := 33) hK d_X9_number_28 (by decide) (fun h11 => ?_) (fun h11 => ?_)
        · have hD := if_f hD h11
          refine r_aload_n hK d_X9_number_33 rfl rfl ?_
          refine r_getR hK d_X9_number_34 fl_RX9_15_8 rfl hk0 ?_
          refine r_ref (b := (a0 + 2)) ((ly_told _ hk0).2.1) ?_
          refine r_iload_n hK d_X9_number_37 rfl rfl ?_
          refine r_iconst hK d_X9_number_38 ci_4 ?_
          refine r_imul hK d_X9_number_39 ?_
          refine r_iload_n hK d_X9_number_40 rfl rfl ?_
          refine r_iadd hK d_X9_number_41 ?_
          refine r_iconst hK d_X9_number_42 ci_5 ?_
          refine r_imul hK d_X9_number_43 ?_
          refine r_iload_n hK d_X9_number_44 rfl rfl ?_
          refine r_iadd hK d_X9_number_45 ?_
          obtain ⟨h12, hD⟩ := ck_e hD
          refine r_iald hK d_X9_number_46 ((ly_told _ hk0).2.2.1) ((ly_told _ hk0).2.2.2) (inb_in h12) ?_
          cases hD
          exact r_iret hK d_X9_number_47
        · have hD := if_t hD h11
          refine r_iconst hK d_X9_number_31 ci_m1 ?_
          cases hD
          exact r_iret hK d_X9_number_32
end S_X9_number
theorem d_X9_keep_0 : gd cX9_keep 0 (.aload_n 0) 1 1 := ⟨by decide +kernel, rfl⟩
theorem d_X9_keep_1 : gd cX9_keep 1 (.getfield 22) 3 4 := ⟨by decide +kernel, rfl⟩
theorem d_X9_keep_4 : gd cX9_keep 4 (.aload_n 0) 1 5 := ⟨by decide +kernel, rfl⟩
theorem d_X9_keep_5 : gd cX9_keep 5 (.getfield 18) 3 8 := ⟨by decide +kernel, rfl⟩
theorem d_X9_keep_8 : gd cX9_keep 8 (.if_icmp .lt 5) 3 11 := ⟨by decide +kernel, rfl⟩
theorem d_X9_keep_11 : gd cX9_keep 11 (.iconst (-1)) 1 12 := ⟨by decide +kernel, rfl⟩
theorem d_X9_keep_12 : gd cX9_keep 12 .ireturn 1 13 := ⟨by decide +kernel, rfl⟩
theorem d_X9_keep_13 : gd cX9_keep 13 (.aload_n 0) 1 14 := ⟨by decide +kernel, rfl⟩
theorem d_X9_keep_14 : gd cX9_keep 14 (.getfield 9) 3 17 := ⟨by decide +kernel, rfl⟩
theorem d_X9_keep_17 : gd cX9_keep 17 (.aload_n 0) 1 18 := ⟨by decide +kernel, rfl⟩
theorem d_X9_keep_18 : gd cX9_keep 18 (.getfield 22) 3 21 := ⟨by decide +kernel, rfl⟩
theorem d_X9_keep_21 : gd cX9_keep 21 (.aload_n 1) 1 22 := ⟨by decide +kernel, rfl⟩
theorem d_X9_keep_22 : gd cX9_keep 22 (.getfield 33) 3 25 := ⟨by decide +kernel, rfl⟩
theorem d_X9_keep_25 : gd cX9_keep 25 .iastore 1 26 := ⟨by decide +kernel, rfl⟩
theorem d_X9_keep_26 : gd cX9_keep 26 (.iconst 0) 1 27 := ⟨by decide +kernel, rfl⟩
theorem d_X9_keep_27 : gd cX9_keep 27 (.istore_n 2) 1 28 := ⟨by decide +kernel, rfl⟩
theorem d_X9_keep_28 : gd cX9_keep 28 (.iload_n 2) 1 29 := ⟨by decide +kernel, rfl⟩
theorem d_X9_keep_29 : gd cX9_keep 29 (.bipush 20) 2 31 := ⟨by decide +kernel, rfl⟩
theorem d_X9_keep_31 : gd cX9_keep 31 (.if_icmp .ge 30) 3 34 := ⟨by decide +kernel, rfl⟩
theorem d_X9_keep_34 : gd cX9_keep 34 (.aload_n 0) 1 35 := ⟨by decide +kernel, rfl⟩
theorem d_X9_keep_35 : gd cX9_keep 35 (.getfield 15) 3 38 := ⟨by decide +kernel, rfl⟩
theorem d_X9_keep_38 : gd cX9_keep 38 (.aload_n 0) 1 39 := ⟨by decide +kernel, rfl⟩
theorem d_X9_keep_39 : gd cX9_keep 39 (.getfield 22) 3 42 := ⟨by decide +kernel, rfl⟩
theorem d_X9_keep_42 : gd cX9_keep 42 (.iconst 4) 1 43 := ⟨by decide +kernel, rfl⟩
theorem d_X9_keep_43 : gd cX9_keep 43 .imul 1 44 := ⟨by decide +kernel, rfl⟩
theorem d_X9_keep_44 : gd cX9_keep 44 (.iconst 5) 1 45 := ⟨by decide +kernel, rfl⟩
theorem d_X9_keep_45 : gd cX9_keep 45 .imul 1 46 := ⟨by decide +kernel, rfl⟩
theorem d_X9_keep_46 : gd cX9_keep 46 (.iload_n 2) 1 47 := ⟨by decide +kernel, rfl⟩
theorem d_X9_keep_47 : gd cX9_keep 47 .iadd 1 48 := ⟨by decide +kernel, rfl⟩
theorem d_X9_keep_48 : gd cX9_keep 48 (.aload_n 1) 1 49 := ⟨by decide +kernel, rfl⟩
theorem d_X9_keep_49 : gd cX9_keep 49 (.getfield 37) 3 52 := ⟨by decide +kernel, rfl⟩
theorem d_X9_keep_52 : gd cX9_keep 52 (.iload_n 2) 1 53 := ⟨by decide +kernel, rfl⟩
theorem d_X9_keep_53 : gd cX9_keep 53 .iaload 1 54 := ⟨by decide +kernel, rfl⟩
theorem d_X9_keep_54 : gd cX9_keep 54 .iastore 1 55 := ⟨by decide +kernel, rfl⟩
theorem d_X9_keep_55 : gd cX9_keep 55 (.iinc 2 1) 3 58 := ⟨by decide +kernel, rfl⟩
theorem d_X9_keep_58 : gd cX9_keep 58 (.goto (-30)) 3 61 := ⟨by decide +kernel, rfl⟩
theorem d_X9_keep_61 : gd cX9_keep 61 (.aload_n 0) 1 62 := ⟨by decide +kernel, rfl⟩
theorem d_X9_keep_62 : gd cX9_keep 62 .dup 1 63 := ⟨by decide +kernel, rfl⟩
theorem d_X9_keep_63 : gd cX9_keep 63 (.getfield 22) 3 66 := ⟨by decide +kernel, rfl⟩
theorem d_X9_keep_66 : gd cX9_keep 66 (.iconst 1) 1 67 := ⟨by decide +kernel, rfl⟩
theorem d_X9_keep_67 : gd cX9_keep 67 .iadd 1 68 := ⟨by decide +kernel, rfl⟩
theorem d_X9_keep_68 : gd cX9_keep 68 (.putfield 22) 3 71 := ⟨by decide +kernel, rfl⟩
theorem d_X9_keep_71 : gd cX9_keep 71 (.aload_n 0) 1 72 := ⟨by decide +kernel, rfl⟩
theorem d_X9_keep_72 : gd cX9_keep 72 (.getfield 22) 3 75 := ⟨by decide +kernel, rfl⟩
theorem d_X9_keep_75 : gd cX9_keep 75 (.iconst 1) 1 76 := ⟨by decide +kernel, rfl⟩
theorem d_X9_keep_76 : gd cX9_keep 76 .isub 1 77 := ⟨by decide +kernel, rfl⟩
theorem d_X9_keep_77 : gd cX9_keep 77 .ireturn 1 78 := ⟨by decide +kernel, rfl⟩
def Bo_X9_keep_28 (q28 : Nat → Int32 → gs_M → Option (Int32 × gs_M)) (a0 : Nat) (x2 : Int32) (μ : gs_M) : Option (Int32 × gs_M) :=
  if (20 : Int32) ≤ x2 then (lt1 (sI μ a0 3 ((gI μ a0 3) + (1 : Int32))) (fun u2 => some ((gI u2 a0 3) - (1 : Int32), u2))) else (ck (inb x2 20) (ck (inb ((((gI μ a0 3) * (4 : Int32)) * (5 : Int32)) + x2) 120) (lt1 (sI μ (a0 + 2) (Int32.toNatClampNeg ((((gI μ a0 3) * (4 : Int32)) * (5 : Int32)) + x2)) (gI μ 4 (Int32.toNatClampNeg x2))) (fun u5 => q28 a0 (x2 + (1 : Int32)) u5))))
def L_X9_keep_28  : Nat → Nat → Int32 → gs_M → Option (Int32 × gs_M)
  | 0 => fun _ _ _ => none
  | n + 1 => fun a0 x2 μ => Bo_X9_keep_28  (L_X9_keep_28  n) a0 x2 μ
def D_X9_keep (a0 : Nat) (μ : gs_M) : Option (Int32 × gs_M) :=
  if (gI μ a0 3) < (gI μ a0 0) then (ck (inb (gI μ a0 3) 6) (lt1 (sI μ (a0 + 1) (Int32.toNatClampNeg (gI μ a0 3)) (gI μ 3 4)) (fun u3 => L_X9_keep_28 4096 a0 (0 : Int32) u3))) else (some ((-1 : Int32), μ))
section S_X9_keep
variable {p : Program} {l : Launch} {e : Env} {R : Room} {s : State} {m : MethodId} {args : Array Value} {below : List Frame} {meth : Method} {c : Code} {ad : Nat → Nat} {g : va_G} {tyc : Nat → ClassId}
set_option maxRecDepth 20000 in
theorem To_X9_keep_28  (hK : KC p R s m args meth c ad g tyc RX9 cX9_keep 3 (some .int) 0) {r : Int32} {μ2 : gs_M} {q28 : Nat → Int32 → gs_M → Option (Int32 × gs_M)} (hq28 : ∀ (a0 : Nat) (x2 : Int32) (μ : gs_M), kd a0 = 8 → q28 a0 x2 μ = some (r, μ2) → WJ p l e R s m args below meth c 0 0 (MQ below (gs_Q ad g tyc (some (.int r)) μ2) args s 0 0 (gs_A ad)) ad g tyc 3 28 [.ref a0, .ref 3, .int x2] [] μ) {a0 : Nat} {x2 : Int32} {μ : gs_M} (hk0 : kd a0 = 8) (hD : Bo_X9_keep_28 q28 a0 x2 μ = some (r, μ2)) : WJ p l e R s m args below meth c 0 0 (MQ below (gs_Q ad g tyc (some (.int r)) μ2) args s 0 0 (gs_A ad)) ad g tyc 3 28 [.ref a0, .ref 3, .int x2] [] μ := by
  unfold Bo_X9_keep_28 at hD
  refine r_iload_n hK d_X9_keep_28 rfl rfl ?_
  refine r_bipush hK d_X9_keep_29 cb_20 ?_
  refine r_icmp_ge (tgt := 61) hK d_X9_keep_31 (by decide) (fun h1 => ?_) (fun h1 => ?_)
  · have hD := if_t hD h1
    refine r_aload_n hK d_X9_keep_61 rfl rfl ?_
    refine r_dup hK d_X9_keep_62 rfl ?_
    refine r_getI hK d_X9_keep_63 fl_RX9_22_8 rfl hk0 ?_
    refine r_iconst hK d_X9_keep_66 ci_1 ?_
    refine r_iadd hK d_X9_keep_67 ?_
    refine r_putI hK d_X9_keep_68 fl_RX9_22_8 rfl rfl hk0 ?_
    refine r_ltm hD (fun u2 hD => ?_)
    refine r_aload_n hK d_X9_keep_71 rfl rfl ?_
    refine r_getI hK d_X9_keep_72 fl_RX9_22_8 rfl hk0 ?_
    refine r_iconst hK d_X9_keep_75 ci_1 ?_
    refine r_isub hK d_X9_keep_76 ?_
    cases hD
    exact r_iret hK d_X9_keep_77
  · have hD := if_f hD h1
    refine r_aload_n hK d_X9_keep_34 rfl rfl ?_
    refine r_getR hK d_X9_keep_35 fl_RX9_15_8 rfl hk0 ?_
    refine r_ref (b := (a0 + 2)) ((ly_told _ hk0).2.1) ?_
    refine r_aload_n hK d_X9_keep_38 rfl rfl ?_
    refine r_getI hK d_X9_keep_39 fl_RX9_22_8 rfl hk0 ?_
    refine r_iconst hK d_X9_keep_42 ci_4 ?_
    refine r_imul hK d_X9_keep_43 ?_
    refine r_iconst hK d_X9_keep_44 ci_5 ?_
    refine r_imul hK d_X9_keep_45 ?_
    refine r_iload_n hK d_X9_keep_46 rfl rfl ?_
    refine r_iadd hK d_X9_keep_47 ?_
    refine r_aload_n hK d_X9_keep_48 rfl rfl ?_
    refine r_getR hK d_X9_keep_49 fl_RX9_37_2 rfl kd_3 ?_
    refine r_ref (b := 4) R0_3_3 ?_
    refine r_iload_n hK d_X9_keep_52 rfl rfl ?_
    obtain ⟨h3, hD⟩ := ck_e hD
    refine r_iald hK d_X9_keep_53 kd_4 ln_4 (inb_in h3) ?_
    obtain ⟨h4, hD⟩ := ck_e hD
    refine r_iast hK d_X9_keep_54 ((ly_told _ hk0).2.2.1) ((ly_told _ hk0).2.2.2) (inb_in h4) ?_
    refine r_ltm hD (fun u5 hD => ?_)
    refine r_iinc hK d_X9_keep_55 rfl (v := x2 + (1 : Int32)) (by rw [ci_1]) (by decide) (ls2 := [.ref a0, .ref 3, .int (x2 + (1 : Int32))]) rfl ?_
    refine r_goto (tgt := 28) hK d_X9_keep_58 (by decide) ?_
    exact hq28 _ _ _ hk0 hD
set_option maxRecDepth 20000 in
theorem TL_X9_keep_28  (hK : KC p R s m args meth c ad g tyc RX9 cX9_keep 3 (some .int) 0) {r : Int32} {μ2 : gs_M}   : ∀ (n : Nat) (a0 : Nat) (x2 : Int32) (μ : gs_M), kd a0 = 8 → L_X9_keep_28  n a0 x2 μ = some (r, μ2) → WJ p l e R s m args below meth c 0 0 (MQ below (gs_Q ad g tyc (some (.int r)) μ2) args s 0 0 (gs_A ad)) ad g tyc 3 28 [.ref a0, .ref 3, .int x2] [] μ := by
  intro n
  induction n with
  | zero => intro a0 x2 μ hk0 hD; cases hD
  | succ n ih => intro a0 x2 μ hk0 hD; exact To_X9_keep_28 hK  ih hk0 hD
set_option maxRecDepth 20000 in
theorem C_X9_keep  {a0 : Nat} {μ : gs_M} {r : Int32} {μ2 : gs_M} (hk0 : kd a0 = 8) (hD : D_X9_keep a0 μ = some (r, μ2)) : CALL yX9_keep cX9_keep 3 (some .int) 0 [.ref a0, .ref 3] μ (some (.int r)) μ2 := by
  unfold D_X9_keep at hD
  refine gs_enter mf_X9_keep (Nat.le_of_ble_eq_true rfl) (ls := [.ref a0, .ref 3, gs_J]) rfl (fun p l e R s m args below meth c ad g tyc hK => ?_)
  have hK : KC p R s m args meth c ad g tyc RX9 cX9_keep 3 (some .int) 0 := hK
  refine r_aload_n hK d_X9_keep_0 rfl rfl ?_
  refine r_getI hK d_X9_keep_1 fl_RX9_22_8 rfl hk0 ?_
  refine r_aload_n hK d_X9_keep_4 rfl rfl ?_
  refine r_getI hK d_X9_keep_5 fl_RX9_18_8 rfl hk0 ?_
  refine r_icmp_lt (tgt := 13) hK d_X9_keep_8 (by decide) (fun h1 => ?_) (fun h1 => ?_)
  · have hD := if_t hD h1
    refine r_aload_n hK d_X9_keep_13 rfl rfl ?_
    refine r_getR hK d_X9_keep_14 fl_RX9_9_8 rfl hk0 ?_
    refine r_ref (b := (a0 + 1)) ((ly_told _ hk0).1.1) ?_
    refine r_aload_n hK d_X9_keep_17 rfl rfl ?_
    refine r_getI hK d_X9_keep_18 fl_RX9_22_8 rfl hk0 ?_
    refine r_aload_n hK d_X9_keep_21 rfl rfl ?_
    refine r_getI hK d_X9_keep_22 fl_RX9_33_2 rfl kd_3 ?_
    obtain ⟨h2, hD⟩ := ck_e hD
    refine r_iast hK d_X9_keep_25 ((ly_told _ hk0).1.2.1) ((ly_told _ hk0).1.2.2) (inb_in h2) ?_
    refine r_ltm hD (fun u3 hD => ?_)
    refine r_iconst hK d_X9_keep_26 ci_0 ?_
    refine r_istore_n hK d_X9_keep_27 rfl (by decide) (ls2 := [.ref a0, .ref 3, .int (0 : Int32)]) rfl ?_
    exact TL_X9_keep_28 hK  _ _ _ _ hk0 hD
  · have hD := if_f hD h1
    refine r_iconst hK d_X9_keep_11 ci_m1 ?_
    cases hD
    exact r_iret hK d_X9_keep_12
end S_X9_keep
theorem d_X3_keep_0 : gd cX3_keep 0 (.aload_n 0) 1 1 := ⟨by decide +kernel, rfl⟩
theorem d_X3_keep_1 : gd cX3_keep 1 (.getfield 18) 3 4 := ⟨by decide +kernel, rfl⟩
theorem d_X3_keep_4 : gd cX3_keep 4 (.bipush 6) 2 6 := ⟨by decide +kernel, rfl⟩
theorem d_X3_keep_6 : gd cX3_keep 6 (.if_icmp .lt 5) 3 9 := ⟨by decide +kernel, rfl⟩
theorem d_X3_keep_9 : gd cX3_keep 9 (.iconst (-1)) 1 10 := ⟨by decide +kernel, rfl⟩
theorem d_X3_keep_10 : gd cX3_keep 10 .ireturn 1 11 := ⟨by decide +kernel, rfl⟩
theorem d_X3_keep_11 : gd cX3_keep 11 (.aload_n 0) 1 12 := ⟨by decide +kernel, rfl⟩
theorem d_X3_keep_12 : gd cX3_keep 12 (.getfield 9) 3 15 := ⟨by decide +kernel, rfl⟩
theorem d_X3_keep_15 : gd cX3_keep 15 (.aload_n 0) 1 16 := ⟨by decide +kernel, rfl⟩
theorem d_X3_keep_16 : gd cX3_keep 16 (.getfield 18) 3 19 := ⟨by decide +kernel, rfl⟩
theorem d_X3_keep_19 : gd cX3_keep 19 (.iload_n 1) 1 20 := ⟨by decide +kernel, rfl⟩
theorem d_X3_keep_20 : gd cX3_keep 20 .iastore 1 21 := ⟨by decide +kernel, rfl⟩
theorem d_X3_keep_21 : gd cX3_keep 21 (.aload_n 0) 1 22 := ⟨by decide +kernel, rfl⟩
theorem d_X3_keep_22 : gd cX3_keep 22 (.getfield 15) 3 25 := ⟨by decide +kernel, rfl⟩
theorem d_X3_keep_25 : gd cX3_keep 25 (.aload_n 0) 1 26 := ⟨by decide +kernel, rfl⟩
theorem d_X3_keep_26 : gd cX3_keep 26 (.getfield 18) 3 29 := ⟨by decide +kernel, rfl⟩
theorem d_X3_keep_29 : gd cX3_keep 29 (.iload_n 2) 1 30 := ⟨by decide +kernel, rfl⟩
theorem d_X3_keep_30 : gd cX3_keep 30 .iastore 1 31 := ⟨by decide +kernel, rfl⟩
theorem d_X3_keep_31 : gd cX3_keep 31 (.aload_n 0) 1 32 := ⟨by decide +kernel, rfl⟩
theorem d_X3_keep_32 : gd cX3_keep 32 .dup 1 33 := ⟨by decide +kernel, rfl⟩
theorem d_X3_keep_33 : gd cX3_keep 33 (.getfield 18) 3 36 := ⟨by decide +kernel, rfl⟩
theorem d_X3_keep_36 : gd cX3_keep 36 (.iconst 1) 1 37 := ⟨by decide +kernel, rfl⟩
theorem d_X3_keep_37 : gd cX3_keep 37 .iadd 1 38 := ⟨by decide +kernel, rfl⟩
theorem d_X3_keep_38 : gd cX3_keep 38 (.putfield 18) 3 41 := ⟨by decide +kernel, rfl⟩
theorem d_X3_keep_41 : gd cX3_keep 41 (.aload_n 0) 1 42 := ⟨by decide +kernel, rfl⟩
theorem d_X3_keep_42 : gd cX3_keep 42 (.getfield 18) 3 45 := ⟨by decide +kernel, rfl⟩
theorem d_X3_keep_45 : gd cX3_keep 45 (.iconst 1) 1 46 := ⟨by decide +kernel, rfl⟩
theorem d_X3_keep_46 : gd cX3_keep 46 .isub 1 47 := ⟨by decide +kernel, rfl⟩
theorem d_X3_keep_47 : gd cX3_keep 47 .ireturn 1 48 := ⟨by decide +kernel, rfl⟩
def D_X3_keep (a0 : Nat) (x1 : Int32) (x2 : Int32) (μ : gs_M) : Option (Int32 × gs_M) :=
  if (gI μ a0 2) < (6 : Int32) then (ck (inb (gI μ a0 2) 6) (lt1 (sI μ (a0 + 1) (Int32.toNatClampNeg (gI μ a0 2)) x1) (fun u3 => ck (inb (gI u3 a0 2) 6) (lt1 (sI u3 (a0 + 2) (Int32.toNatClampNeg (gI u3 a0 2)) x2) (fun u5 => lt1 (sI u5 a0 2 ((gI u5 a0 2) + (1 : Int32))) (fun u6 => some ((gI u6 a0 2) - (1 : Int32), u6))))))) else (some ((-1 : Int32), μ))
section S_X3_keep
variable {p : Program} {l : Launch} {e : Env} {R : Room} {s : State} {m : MethodId} {args : Array Value} {below : List Frame} {meth : Method} {c : Code} {ad : Nat → Nat} {g : va_G} {tyc : Nat → ClassId}
set_option maxRecDepth 20000 in
theorem C_X3_keep  {a0 : Nat} {x1 : Int32} {x2 : Int32} {μ : gs_M} {r : Int32} {μ2 : gs_M} (hk0 : kd a0 = 3) (hD : D_X3_keep a0 x1 x2 μ = some (r, μ2)) : CALL yX3_keep cX3_keep 3 (some .int) 0 [.ref a0, .int x1, .int x2] μ (some (.int r)) μ2 := by
  unfold D_X3_keep at hD
  refine gs_enter mf_X3_keep (Nat.le_of_ble_eq_true rfl) (ls := [.ref a0, .int x1, .int x2]) rfl (fun p l e R s m args below meth c ad g tyc hK => ?_)
  have hK : KC p R s m args meth c ad g tyc RX3 cX3_keep 3 (some .int) 0 := hK
  refine r_aload_n hK d_X3_keep_0 rfl rfl ?_
  refine r_getI hK d_X3_keep_1 fl_RX3_18_3 rfl hk0 ?_
  refine r_bipush hK d_X3_keep_4 cb_6 ?_
  refine r_icmp_lt (tgt := 11) hK d_X3_keep_6 (by decide) (fun h1 => ?_) (fun h1 => ?_)
  · have hD := if_t hD h1
    refine r_aload_n hK d_X3_keep_11 rfl rfl ?_
    refine r_getR hK d_X3_keep_12 fl_RX3_9_3 rfl hk0 ?_
    refine r_ref (b := (a0 + 1)) ((ly_pairs _ hk0).1.1) ?_
    refine r_aload_n hK d_X3_keep_15 rfl rfl ?_
    refine r_getI hK d_X3_keep_16 fl_RX3_18_3 rfl hk0 ?_
    refine r_iload_n hK d_X3_keep_19 rfl rfl ?_
    obtain ⟨h2, hD⟩ := ck_e hD
    refine r_iast hK d_X3_keep_20 ((ly_pairs _ hk0).1.2.1) ((ly_pairs _ hk0).1.2.2) (inb_in h2) ?_
    refine r_ltm hD (fun u3 hD => ?_)
    refine r_aload_n hK d_X3_keep_21 rfl rfl ?_
    refine r_getR hK d_X3_keep_22 fl_RX3_15_3 rfl hk0 ?_
    refine r_ref (b := (a0 + 2)) ((ly_pairs _ hk0).2.1) ?_
    refine r_aload_n hK d_X3_keep_25 rfl rfl ?_
    refine r_getI hK d_X3_keep_26 fl_RX3_18_3 rfl hk0 ?_
    refine r_iload_n hK d_X3_keep_29 rfl rfl ?_
    obtain ⟨h4, hD⟩ := ck_e hD
    refine r_iast hK d_X3_keep_30 ((ly_pairs _ hk0).2.2.1) ((ly_pairs _ hk0).2.2.2) (inb_in h4) ?_
    refine r_ltm hD (fun u5 hD => ?_)
    refine r_aload_n hK d_X3_keep_31 rfl rfl ?_
    refine r_dup hK d_X3_keep_32 rfl ?_
    refine r_getI hK d_X3_keep_33 fl_RX3_18_3 rfl hk0 ?_
    refine r_iconst hK d_X3_keep_36 ci_1 ?_
    refine r_iadd hK d_X3_keep_37 ?_
    refine r_putI hK d_X3_keep_38 fl_RX3_18_3 rfl rfl hk0 ?_
    refine r_ltm hD (fun u6 hD => ?_)
    refine r_aload_n hK d_X3_keep_41 rfl rfl ?_
    refine r_getI hK d_X3_keep_42 fl_RX3_18_3 rfl hk0 ?_
    refine r_iconst hK d_X3_keep_45 ci_1 ?_
    refine r_isub hK d_X3_keep_46 ?_
    cases hD
    exact r_iret hK d_X3_keep_47
  · have hD := if_f hD h1
    refine r_iconst hK d_X3_keep_9 ci_m1 ?_
    cases hD
    exact r_iret hK d_X3_keep_10
end S_X3_keep
theorem d_X0_keep_0 : gd cX0_keep 0 (.aload_n 0) 1 1 := ⟨by decide +kernel, rfl⟩
theorem d_X0_keep_1 : gd cX0_keep 1 (.getfield 15) 3 4 := ⟨by decide +kernel, rfl⟩
theorem d_X0_keep_4 : gd cX0_keep 4 (.bipush 60) 2 6 := ⟨by decide +kernel, rfl⟩
theorem d_X0_keep_6 : gd cX0_keep 6 (.if_icmp .lt 5) 3 9 := ⟨by decide +kernel, rfl⟩
theorem d_X0_keep_9 : gd cX0_keep 9 (.iconst (-1)) 1 10 := ⟨by decide +kernel, rfl⟩
theorem d_X0_keep_10 : gd cX0_keep 10 .ireturn 1 11 := ⟨by decide +kernel, rfl⟩
theorem d_X0_keep_11 : gd cX0_keep 11 (.aload_n 0) 1 12 := ⟨by decide +kernel, rfl⟩
theorem d_X0_keep_12 : gd cX0_keep 12 (.getfield 9) 3 15 := ⟨by decide +kernel, rfl⟩
theorem d_X0_keep_15 : gd cX0_keep 15 (.aload_n 0) 1 16 := ⟨by decide +kernel, rfl⟩
theorem d_X0_keep_16 : gd cX0_keep 16 (.getfield 15) 3 19 := ⟨by decide +kernel, rfl⟩
theorem d_X0_keep_19 : gd cX0_keep 19 (.iload_n 1) 1 20 := ⟨by decide +kernel, rfl⟩
theorem d_X0_keep_20 : gd cX0_keep 20 .iastore 1 21 := ⟨by decide +kernel, rfl⟩
theorem d_X0_keep_21 : gd cX0_keep 21 (.aload_n 0) 1 22 := ⟨by decide +kernel, rfl⟩
theorem d_X0_keep_22 : gd cX0_keep 22 .dup 1 23 := ⟨by decide +kernel, rfl⟩
theorem d_X0_keep_23 : gd cX0_keep 23 (.getfield 15) 3 26 := ⟨by decide +kernel, rfl⟩
theorem d_X0_keep_26 : gd cX0_keep 26 (.iconst 1) 1 27 := ⟨by decide +kernel, rfl⟩
theorem d_X0_keep_27 : gd cX0_keep 27 .iadd 1 28 := ⟨by decide +kernel, rfl⟩
theorem d_X0_keep_28 : gd cX0_keep 28 (.putfield 15) 3 31 := ⟨by decide +kernel, rfl⟩
theorem d_X0_keep_31 : gd cX0_keep 31 (.aload_n 0) 1 32 := ⟨by decide +kernel, rfl⟩
theorem d_X0_keep_32 : gd cX0_keep 32 (.getfield 15) 3 35 := ⟨by decide +kernel, rfl⟩
theorem d_X0_keep_35 : gd cX0_keep 35 .ireturn 1 36 := ⟨by decide +kernel, rfl⟩
def D_X0_keep (x1 : Int32) (μ : gs_M) : Option (Int32 × gs_M) :=
  if (gI μ 73 1) < (60 : Int32) then (ck (inb (gI μ 73 1) 60) (lt1 (sI μ 74 (Int32.toNatClampNeg (gI μ 73 1)) x1) (fun u3 => lt1 (sI u3 73 1 ((gI u3 73 1) + (1 : Int32))) (fun u4 => some (gI u4 73 1, u4))))) else (some ((-1 : Int32), μ))
section S_X0_keep
variable {p : Program} {l : Launch} {e : Env} {R : Room} {s : State} {m : MethodId} {args : Array Value} {below : List Frame} {meth : Method} {c : Code} {ad : Nat → Nat} {g : va_G} {tyc : Nat → ClassId}
set_option maxRecDepth 20000 in
theorem C_X0_keep  {x1 : Int32} {μ : gs_M} {r : Int32} {μ2 : gs_M}  (hD : D_X0_keep x1 μ = some (r, μ2)) : CALL yX0_keep cX0_keep 2 (some .int) 0 [.ref 73, .int x1] μ (some (.int r)) μ2 := by
  unfold D_X0_keep at hD
  refine gs_enter mf_X0_keep (Nat.le_of_ble_eq_true rfl) (ls := [.ref 73, .int x1]) rfl (fun p l e R s m args below meth c ad g tyc hK => ?_)
  have hK : KC p R s m args meth c ad g tyc RX0 cX0_keep 2 (some .int) 0 := hK
  refine r_aload_n hK d_X0_keep_0 rfl rfl ?_
  refine r_getI hK d_X0_keep_1 fl_RX0_15_0 rfl kd_73 ?_
  refine r_bipush hK d_X0_keep_4 cb_60 ?_
  refine r_icmp_lt (tgt := 11) hK d_X0_keep_6 (by decide) (fun h1 => ?_) (fun h1 => ?_)
  · have hD := if_t hD h1
    refine r_aload_n hK d_X0_keep_11 rfl rfl ?_
    refine r_getR hK d_X0_keep_12 fl_RX0_9_0 rfl kd_73 ?_
    refine r_ref (b := 74) R0_73_0 ?_
    refine r_aload_n hK d_X0_keep_15 rfl rfl ?_
    refine r_getI hK d_X0_keep_16 fl_RX0_15_0 rfl kd_73 ?_
    refine r_iload_n hK d_X0_keep_19 rfl rfl ?_
    obtain ⟨h2, hD⟩ := ck_e hD
    refine r_iast hK d_X0_keep_20 kd_74 ln_74 (inb_in h2) ?_
    refine r_ltm hD (fun u3 hD => ?_)
    refine r_aload_n hK d_X0_keep_21 rfl rfl ?_
    refine r_dup hK d_X0_keep_22 rfl ?_
    refine r_getI hK d_X0_keep_23 fl_RX0_15_0 rfl kd_73 ?_
    refine r_iconst hK d_X0_keep_26 ci_1 ?_
    refine r_iadd hK d_X0_keep_27 ?_
    refine r_putI hK d_X0_keep_28 fl_RX0_15_0 rfl rfl kd_73 ?_
    refine r_ltm hD (fun u4 hD => ?_)
    refine r_aload_n hK d_X0_keep_31 rfl rfl ?_
    refine r_getI hK d_X0_keep_32 fl_RX0_15_0 rfl kd_73 ?_
    cases hD
    exact r_iret hK d_X0_keep_35
  · have hD := if_f hD h1
    refine r_iconst hK d_X0_keep_9 ci_m1 ?_
    cases hD
    exact r_iret hK d_X0_keep_10
end S_X0_keep
theorem d_X0_noneAbove_0 : gd cX0_noneAbove 0 (.iconst 0) 1 1 := ⟨by decide +kernel, rfl⟩
theorem d_X0_noneAbove_1 : gd cX0_noneAbove 1 (.istore_n 2) 1 2 := ⟨by decide +kernel, rfl⟩
theorem d_X0_noneAbove_2 : gd cX0_noneAbove 2 (.iconst 0) 1 3 := ⟨by decide +kernel, rfl⟩
theorem d_X0_noneAbove_3 : gd cX0_noneAbove 3 (.istore_n 3) 1 4 := ⟨by decide +kernel, rfl⟩
theorem d_X0_noneAbove_4 : gd cX0_noneAbove 4 (.iload_n 3) 1 5 := ⟨by decide +kernel, rfl⟩
theorem d_X0_noneAbove_5 : gd cX0_noneAbove 5 (.aload_n 0) 1 6 := ⟨by decide +kernel, rfl⟩
theorem d_X0_noneAbove_6 : gd cX0_noneAbove 6 (.getfield 15) 3 9 := ⟨by decide +kernel, rfl⟩
theorem d_X0_noneAbove_9 : gd cX0_noneAbove 9 (.if_icmp .ge 27) 3 12 := ⟨by decide +kernel, rfl⟩
theorem d_X0_noneAbove_12 : gd cX0_noneAbove 12 (.iload_n 2) 1 13 := ⟨by decide +kernel, rfl⟩
theorem d_X0_noneAbove_13 : gd cX0_noneAbove 13 (.aload_n 0) 1 14 := ⟨by decide +kernel, rfl⟩
theorem d_X0_noneAbove_14 : gd cX0_noneAbove 14 (.getfield 9) 3 17 := ⟨by decide +kernel, rfl⟩
theorem d_X0_noneAbove_17 : gd cX0_noneAbove 17 (.iload_n 3) 1 18 := ⟨by decide +kernel, rfl⟩
theorem d_X0_noneAbove_18 : gd cX0_noneAbove 18 .iaload 1 19 := ⟨by decide +kernel, rfl⟩
theorem d_X0_noneAbove_19 : gd cX0_noneAbove 19 (.iload_n 1) 1 20 := ⟨by decide +kernel, rfl⟩
theorem d_X0_noneAbove_20 : gd cX0_noneAbove 20 (.if_icmp .gt 7) 3 23 := ⟨by decide +kernel, rfl⟩
theorem d_X0_noneAbove_23 : gd cX0_noneAbove 23 (.iconst 1) 1 24 := ⟨by decide +kernel, rfl⟩
theorem d_X0_noneAbove_24 : gd cX0_noneAbove 24 (.goto 4) 3 27 := ⟨by decide +kernel, rfl⟩
theorem d_X0_noneAbove_27 : gd cX0_noneAbove 27 (.iconst 0) 1 28 := ⟨by decide +kernel, rfl⟩
theorem d_X0_noneAbove_28 : gd cX0_noneAbove 28 .iadd 1 29 := ⟨by decide +kernel, rfl⟩
theorem d_X0_noneAbove_29 : gd cX0_noneAbove 29 (.istore_n 2) 1 30 := ⟨by decide +kernel, rfl⟩
theorem d_X0_noneAbove_30 : gd cX0_noneAbove 30 (.iinc 3 1) 3 33 := ⟨by decide +kernel, rfl⟩
theorem d_X0_noneAbove_33 : gd cX0_noneAbove 33 (.goto (-29)) 3 36 := ⟨by decide +kernel, rfl⟩
theorem d_X0_noneAbove_36 : gd cX0_noneAbove 36 (.iload_n 2) 1 37 := ⟨by decide +kernel, rfl⟩
theorem d_X0_noneAbove_37 : gd cX0_noneAbove 37 .ireturn 1 38 := ⟨by decide +kernel, rfl⟩
def Bo_X0_noneAbove_4 (q4 : Int32 → Int32 → Int32 → gs_M → Option (Int32 × gs_M)) (x1 : Int32) (x2 : Int32) (x3 : Int32) (μ : gs_M) : Option (Int32 × gs_M) :=
  if (gI μ 73 1) ≤ x3 then (some (x2, μ)) else (ck (inb x3 60) (if x1 < (gI μ 74 (Int32.toNatClampNeg x3)) then (lt1 (x2 + (0 : Int32)) (fun v4 => q4 x1 v4 (x3 + (1 : Int32)) μ)) else (lt1 (x2 + (1 : Int32)) (fun v5 => q4 x1 v5 (x3 + (1 : Int32)) μ))))
def L_X0_noneAbove_4  : Nat → Int32 → Int32 → Int32 → gs_M → Option (Int32 × gs_M)
  | 0 => fun _ _ _ _ => none
  | n + 1 => fun x1 x2 x3 μ => Bo_X0_noneAbove_4  (L_X0_noneAbove_4  n) x1 x2 x3 μ
def D_X0_noneAbove (x1 : Int32) (μ : gs_M) : Option (Int32 × gs_M) :=
  L_X0_noneAbove_4 4096 x1 (0 : Int32) (0 : Int32) μ
section S_X0_noneAbove
variable {p : Program} {l : Launch} {e : Env} {R : Room} {s : State} {m : MethodId} {args : Array Value} {below : List Frame} {meth : Method} {c : Code} {ad : Nat → Nat} {g : va_G} {tyc : Nat → ClassId}
set_option maxRecDepth 20000 in
theorem To_X0_noneAbove_4  (hK : KC p R s m args meth c ad g tyc RX0 cX0_noneAbove 4 (some .int) 0) {r : Int32} {μ2 : gs_M} {q4 : Int32 → Int32 → Int32 → gs_M → Option (Int32 × gs_M)} (hq4 : ∀ (x1 : Int32) (x2 : Int32) (x3 : Int32) (μ : gs_M), q4 x1 x2 x3 μ = some (r, μ2) → WJ p l e R s m args below meth c 0 0 (MQ below (gs_Q ad g tyc (some (.int r)) μ2) args s 0 0 (gs_A ad)) ad g tyc 4 4 [.ref 73, .int x1, .int x2, .int x3] [] μ) {x1 : Int32} {x2 : Int32} {x3 : Int32} {μ : gs_M}  (hD : Bo_X0_noneAbove_4 q4 x1 x2 x3 μ = some (r, μ2)) : WJ p l e R s m args below meth c 0 0 (MQ below (gs_Q ad g tyc (some (.int r)) μ2) args s 0 0 (gs_A ad)) ad g tyc 4 4 [.ref 73, .int x1, .int x2, .int x3] [] μ := by
  unfold Bo_X0_noneAbove_4 at hD
  refine r_iload_n hK d_X0_noneAbove_4 rfl rfl ?_
  refine r_aload_n hK d_X0_noneAbove_5 rfl rfl ?_
  refine r_getI hK d_X0_noneAbove_6 fl_RX0_15_0 rfl kd_73 ?_
  refine r_icmp_ge (tgt := 36) hK d_X0_noneAbove_9 (by decide) (fun h1 => ?_) (fun h1 => ?_)
  · have hD := if_t hD h1
    refine r_iload_n hK d_X0_noneAbove_36 rfl rfl ?_
    cases hD
    exact r_iret hK d_X0_noneAbove_37
  · have hD := if_f hD h1
    refine r_iload_n hK d_X0_noneAbove_12 rfl rfl ?_
    refine r_aload_n hK d_X0_noneAbove_13 rfl rfl ?_
    refine r_getR hK d_X0_noneAbove_14 fl_RX0_9_0 rfl kd_73 ?_
    refine r_ref (b := 74) R0_73_0 ?_
    refine r_iload_n hK d_X0_noneAbove_17 rfl rfl ?_
    obtain ⟨h2, hD⟩ := ck_e hD
    refine r_iald hK d_X0_noneAbove_18 kd_74 ln_74 (inb_in h2) ?_
    refine r_iload_n hK d_X0_noneAbove_19 rfl rfl ?_
    refine r_icmp_gt (tgt := 27) hK d_X0_noneAbove_20 (by decide) (fun h3 => ?_) (fun h3 => ?_)
    · have hD := if_t hD h3
      refine r_iconst hK d_X0_noneAbove_27 ci_0 ?_
      refine r_iadd hK d_X0_noneAbove_28 ?_
      refine r_lti hD (fun v4 hD => ?_)
      refine r_istore_n hK d_X0_noneAbove_29 rfl (by decide) (ls2 := [.ref 73, .int x1, .int v4, .int x3]) rfl ?_
      refine r_iinc hK d_X0_noneAbove_30 rfl (v := x3 + (1 : Int32)) (by rw [ci_1]) (by decide) (ls2 := [.ref 73, .int x1, .int v4, .int (x3 + (1 : Int32))]) rfl ?_
      refine r_goto (tgt := 4) hK d_X0_noneAbove_33 (by decide) ?_
      exact hq4 _ _ _ _  hD
    · have hD := if_f hD h3
      refine r_iconst hK d_X0_noneAbove_23 ci_1 ?_
      refine r_goto (tgt := 28) hK d_X0_noneAbove_24 (by decide) ?_
      refine r_iadd hK d_X0_noneAbove_28 ?_
      refine r_lti hD (fun v5 hD => ?_)
      refine r_istore_n hK d_X0_noneAbove_29 rfl (by decide) (ls2 := [.ref 73, .int x1, .int v5, .int x3]) rfl ?_
      refine r_iinc hK d_X0_noneAbove_30 rfl (v := x3 + (1 : Int32)) (by rw [ci_1]) (by decide) (ls2 := [.ref 73, .int x1, .int v5, .int (x3 + (1 : Int32))]) rfl ?_
      refine r_goto (tgt := 4) hK d_X0_noneAbove_33 (by decide) ?_
      exact hq4 _ _ _ _  hD
set_option maxRecDepth 20000 in
theorem TL_X0_noneAbove_4  (hK : KC p R s m args meth c ad g tyc RX0 cX0_noneAbove 4 (some .int) 0) {r : Int32} {μ2 : gs_M}   : ∀ (n : Nat) (x1 : Int32) (x2 : Int32) (x3 : Int32) (μ : gs_M), L_X0_noneAbove_4  n x1 x2 x3 μ = some (r, μ2) → WJ p l e R s m args below meth c 0 0 (MQ below (gs_Q ad g tyc (some (.int r)) μ2) args s 0 0 (gs_A ad)) ad g tyc 4 4 [.ref 73, .int x1, .int x2, .int x3] [] μ := by
  intro n
  induction n with
  | zero => intro x1 x2 x3 μ  hD; cases hD
  | succ n ih => intro x1 x2 x3 μ  hD; exact To_X0_noneAbove_4 hK  ih  hD
set_option maxRecDepth 20000 in
theorem C_X0_noneAbove  {x1 : Int32} {μ : gs_M} {r : Int32} {μ2 : gs_M}  (hD : D_X0_noneAbove x1 μ = some (r, μ2)) : CALL yX0_noneAbove cX0_noneAbove 4 (some .int) 0 [.ref 73, .int x1] μ (some (.int r)) μ2 := by
  unfold D_X0_noneAbove at hD
  refine gs_enter mf_X0_noneAbove (Nat.le_of_ble_eq_true rfl) (ls := [.ref 73, .int x1, gs_J, gs_J]) rfl (fun p l e R s m args below meth c ad g tyc hK => ?_)
  have hK : KC p R s m args meth c ad g tyc RX0 cX0_noneAbove 4 (some .int) 0 := hK
  refine r_iconst hK d_X0_noneAbove_0 ci_0 ?_
  refine r_istore_n hK d_X0_noneAbove_1 rfl (by decide) (ls2 := [.ref 73, .int x1, .int (0 : Int32), gs_J]) rfl ?_
  refine r_iconst hK d_X0_noneAbove_2 ci_0 ?_
  refine r_istore_n hK d_X0_noneAbove_3 rfl (by decide) (ls2 := [.ref 73, .int x1, .int (0 : Int32), .int (0 : Int32)]) rfl ?_
  exact TL_X0_noneAbove_4 hK  _ _ _ _ _  hD
end S_X0_noneAbove
theorem d_X0_choices_0 : gd cX0_choices 0 (.lconst 1) 1 1 := ⟨by decide +kernel, rfl⟩
theorem d_X0_choices_1 : gd cX0_choices 1 (.lstore_n 2) 1 2 := ⟨by decide +kernel, rfl⟩
theorem d_X0_choices_2 : gd cX0_choices 2 (.iconst 0) 1 3 := ⟨by decide +kernel, rfl⟩
theorem d_X0_choices_3 : gd cX0_choices 3 (.istore 4) 2 5 := ⟨by decide +kernel, rfl⟩
theorem d_X0_choices_5 : gd cX0_choices 5 (.iload 4) 2 7 := ⟨by decide +kernel, rfl⟩
theorem d_X0_choices_7 : gd cX0_choices 7 (.iload_n 1) 1 8 := ⟨by decide +kernel, rfl⟩
theorem d_X0_choices_8 : gd cX0_choices 8 (.if_icmp .ge 23) 3 11 := ⟨by decide +kernel, rfl⟩
theorem d_X0_choices_11 : gd cX0_choices 11 (.lload_n 2) 1 12 := ⟨by decide +kernel, rfl⟩
theorem d_X0_choices_12 : gd cX0_choices 12 (.iload_n 0) 1 13 := ⟨by decide +kernel, rfl⟩
theorem d_X0_choices_13 : gd cX0_choices 13 (.iload 4) 2 15 := ⟨by decide +kernel, rfl⟩
theorem d_X0_choices_15 : gd cX0_choices 15 .isub 1 16 := ⟨by decide +kernel, rfl⟩
theorem d_X0_choices_16 : gd cX0_choices 16 .i2l 1 17 := ⟨by decide +kernel, rfl⟩
theorem d_X0_choices_17 : gd cX0_choices 17 .lmul 1 18 := ⟨by decide +kernel, rfl⟩
theorem d_X0_choices_18 : gd cX0_choices 18 (.iload 4) 2 20 := ⟨by decide +kernel, rfl⟩
theorem d_X0_choices_20 : gd cX0_choices 20 (.iconst 1) 1 21 := ⟨by decide +kernel, rfl⟩
theorem d_X0_choices_21 : gd cX0_choices 21 .iadd 1 22 := ⟨by decide +kernel, rfl⟩
theorem d_X0_choices_22 : gd cX0_choices 22 .i2l 1 23 := ⟨by decide +kernel, rfl⟩
theorem d_X0_choices_23 : gd cX0_choices 23 .ldiv 1 24 := ⟨by decide +kernel, rfl⟩
theorem d_X0_choices_24 : gd cX0_choices 24 (.lstore_n 2) 1 25 := ⟨by decide +kernel, rfl⟩
theorem d_X0_choices_25 : gd cX0_choices 25 (.iinc 4 1) 3 28 := ⟨by decide +kernel, rfl⟩
theorem d_X0_choices_28 : gd cX0_choices 28 (.goto (-23)) 3 31 := ⟨by decide +kernel, rfl⟩
theorem d_X0_choices_31 : gd cX0_choices 31 (.lload_n 2) 1 32 := ⟨by decide +kernel, rfl⟩
theorem d_X0_choices_32 : gd cX0_choices 32 .lreturn 1 33 := ⟨by decide +kernel, rfl⟩
def Bo_X0_choices_5 (q5 : Int32 → Int32 → Int64 → Int32 → gs_M → Option (Int64 × gs_M)) (x0 : Int32) (x1 : Int32) (z2 : Int64) (x4 : Int32) (μ : gs_M) : Option (Int64 × gs_M) :=
  if x1 ≤ x4 then (some (z2, μ)) else (ck (nzl (Int32.toInt64 (x4 + (1 : Int32)))) (lt1 ((z2 * (Int32.toInt64 (x0 - x4))) / (Int32.toInt64 (x4 + (1 : Int32)))) (fun v3 => q5 x0 x1 v3 (x4 + (1 : Int32)) μ)))
def L_X0_choices_5  : Nat → Int32 → Int32 → Int64 → Int32 → gs_M → Option (Int64 × gs_M)
  | 0 => fun _ _ _ _ _ => none
  | n + 1 => fun x0 x1 z2 x4 μ => Bo_X0_choices_5  (L_X0_choices_5  n) x0 x1 z2 x4 μ
def D_X0_choices (x0 : Int32) (x1 : Int32) (μ : gs_M) : Option (Int64 × gs_M) :=
  L_X0_choices_5 4096 x0 x1 (1 : Int64) (0 : Int32) μ
section S_X0_choices
variable {p : Program} {l : Launch} {e : Env} {R : Room} {s : State} {m : MethodId} {args : Array Value} {below : List Frame} {meth : Method} {c : Code} {ad : Nat → Nat} {g : va_G} {tyc : Nat → ClassId}
set_option maxRecDepth 20000 in
theorem To_X0_choices_5  (hK : KC p R s m args meth c ad g tyc RX0 cX0_choices 5 (some .long) 0) {r : Int64} {μ2 : gs_M} {q5 : Int32 → Int32 → Int64 → Int32 → gs_M → Option (Int64 × gs_M)} (hq5 : ∀ (x0 : Int32) (x1 : Int32) (z2 : Int64) (x4 : Int32) (μ : gs_M), q5 x0 x1 z2 x4 μ = some (r, μ2) → WJ p l e R s m args below meth c 0 0 (MQ below (gs_Q ad g tyc (some (.long r)) μ2) args s 0 0 (gs_A ad)) ad g tyc 5 5 [.int x0, .int x1, .long z2, gs_J, .int x4] [] μ) {x0 : Int32} {x1 : Int32} {z2 : Int64} {x4 : Int32} {μ : gs_M}  (hD : Bo_X0_choices_5 q5 x0 x1 z2 x4 μ = some (r, μ2)) : WJ p l e R s m args below meth c 0 0 (MQ below (gs_Q ad g tyc (some (.long r)) μ2) args s 0 0 (gs_A ad)) ad g tyc 5 5 [.int x0, .int x1, .long z2, gs_J, .int x4] [] μ := by
  unfold Bo_X0_choices_5 at hD
  refine r_iload hK d_X0_choices_5 rfl ?_
  refine r_iload_n hK d_X0_choices_7 rfl rfl ?_
  refine r_icmp_ge (tgt := 31) hK d_X0_choices_8 (by decide) (fun h1 => ?_) (fun h1 => ?_)
  · have hD := if_t hD h1
    refine r_lload_n hK d_X0_choices_31 rfl rfl ?_
    cases hD
    exact r_lret hK d_X0_choices_32
  · have hD := if_f hD h1
    refine r_lload_n hK d_X0_choices_11 rfl rfl ?_
    refine r_iload_n hK d_X0_choices_12 rfl rfl ?_
    refine r_iload hK d_X0_choices_13 rfl ?_
    refine r_isub hK d_X0_choices_15 ?_
    refine r_i2l hK d_X0_choices_16 ?_
    refine r_lmul hK d_X0_choices_17 ?_
    refine r_iload hK d_X0_choices_18 rfl ?_
    refine r_iconst hK d_X0_choices_20 ci_1 ?_
    refine r_iadd hK d_X0_choices_21 ?_
    refine r_i2l hK d_X0_choices_22 ?_
    obtain ⟨h2, hD⟩ := ck_e hD
    refine r_ldiv hK d_X0_choices_23 (nzl_e h2) ?_
    refine r_ltl hD (fun v3 hD => ?_)
    refine r_lstore_n hK d_X0_choices_24 rfl (by decide) (ls2 := [.int x0, .int x1, .long v3, gs_J, .int x4]) rfl ?_
    refine r_iinc hK d_X0_choices_25 rfl (v := x4 + (1 : Int32)) (by rw [ci_1]) (by decide) (ls2 := [.int x0, .int x1, .long v3, gs_J, .int (x4 + (1 : Int32))]) rfl ?_
    refine r_goto (tgt := 5) hK d_X0_choices_28 (by decide) ?_
    exact hq5 _ _ _ _ _  hD
set_option maxRecDepth 20000 in
theorem TL_X0_choices_5  (hK : KC p R s m args meth c ad g tyc RX0 cX0_choices 5 (some .long) 0) {r : Int64} {μ2 : gs_M}   : ∀ (n : Nat) (x0 : Int32) (x1 : Int32) (z2 : Int64) (x4 : Int32) (μ : gs_M), L_X0_choices_5  n x0 x1 z2 x4 μ = some (r, μ2) → WJ p l e R s m args below meth c 0 0 (MQ below (gs_Q ad g tyc (some (.long r)) μ2) args s 0 0 (gs_A ad)) ad g tyc 5 5 [.int x0, .int x1, .long z2, gs_J, .int x4] [] μ := by
  intro n
  induction n with
  | zero => intro x0 x1 z2 x4 μ  hD; cases hD
  | succ n ih => intro x0 x1 z2 x4 μ  hD; exact To_X0_choices_5 hK  ih  hD
set_option maxRecDepth 20000 in
theorem C_X0_choices  {x0 : Int32} {x1 : Int32} {μ : gs_M} {r : Int64} {μ2 : gs_M}  (hD : D_X0_choices x0 x1 μ = some (r, μ2)) : CALL yX0_choices cX0_choices 5 (some .long) 0 [.int x0, .int x1] μ (some (.long r)) μ2 := by
  unfold D_X0_choices at hD
  refine gs_enter mf_X0_choices (Nat.le_of_ble_eq_true rfl) (ls := [.int x0, .int x1, gs_J, gs_J, gs_J]) rfl (fun p l e R s m args below meth c ad g tyc hK => ?_)
  have hK : KC p R s m args meth c ad g tyc RX0 cX0_choices 5 (some .long) 0 := hK
  refine r_lconst hK d_X0_choices_0 cl_1 ?_
  refine r_lstore_n hK d_X0_choices_1 rfl (by decide) (ls2 := [.int x0, .int x1, .long (1 : Int64), gs_J, gs_J]) rfl ?_
  refine r_iconst hK d_X0_choices_2 ci_0 ?_
  refine r_istore hK d_X0_choices_3 (by decide) (ls2 := [.int x0, .int x1, .long (1 : Int64), gs_J, .int (0 : Int32)]) rfl ?_
  exact TL_X0_choices_5 hK  _ _ _ _ _ _  hD
end S_X0_choices
theorem d_X0_missParts_0 : gd cX0_missParts 0 (.iload_n 1) 1 1 := ⟨by decide +kernel, rfl⟩
theorem d_X0_missParts_1 : gd cX0_missParts 1 (.iconst 1) 1 2 := ⟨by decide +kernel, rfl⟩
theorem d_X0_missParts_2 : gd cX0_missParts 2 (.bipush 10) 2 4 := ⟨by decide +kernel, rfl⟩
theorem d_X0_missParts_4 : gd cX0_missParts 4 (.invokestatic 19) 3 7 := ⟨by decide +kernel, rfl⟩
theorem d_X0_missParts_7 : gd cX0_missParts 7 (.ifCond .eq 21) 3 10 := ⟨by decide +kernel, rfl⟩
theorem d_X0_missParts_10 : gd cX0_missParts 10 (.iload_n 1) 1 11 := ⟨by decide +kernel, rfl⟩
theorem d_X0_missParts_11 : gd cX0_missParts 11 (.aload_n 0) 1 12 := ⟨by decide +kernel, rfl⟩
theorem d_X0_missParts_12 : gd cX0_missParts 12 (.getfield 15) 3 15 := ⟨by decide +kernel, rfl⟩
theorem d_X0_missParts_15 : gd cX0_missParts 15 (.if_icmp .gt 13) 3 18 := ⟨by decide +kernel, rfl⟩
theorem d_X0_missParts_18 : gd cX0_missParts 18 (.iload_n 2) 1 19 := ⟨by decide +kernel, rfl⟩
theorem d_X0_missParts_19 : gd cX0_missParts 19 (.iconst 0) 1 20 := ⟨by decide +kernel, rfl⟩
theorem d_X0_missParts_20 : gd cX0_missParts 20 (.bipush 99) 2 22 := ⟨by decide +kernel, rfl⟩
theorem d_X0_missParts_22 : gd cX0_missParts 22 (.invokestatic 19) 3 25 := ⟨by decide +kernel, rfl⟩
theorem d_X0_missParts_25 : gd cX0_missParts 25 (.ifCond .ne 5) 3 28 := ⟨by decide +kernel, rfl⟩
theorem d_X0_missParts_28 : gd cX0_missParts 28 (.iconst (-1)) 1 29 := ⟨by decide +kernel, rfl⟩
theorem d_X0_missParts_29 : gd cX0_missParts 29 .ireturn 1 30 := ⟨by decide +kernel, rfl⟩
theorem d_X0_missParts_30 : gd cX0_missParts 30 (.aload_n 0) 1 31 := ⟨by decide +kernel, rfl⟩
theorem d_X0_missParts_31 : gd cX0_missParts 31 (.getfield 15) 3 34 := ⟨by decide +kernel, rfl⟩
theorem d_X0_missParts_34 : gd cX0_missParts 34 (.iload_n 1) 1 35 := ⟨by decide +kernel, rfl⟩
theorem d_X0_missParts_35 : gd cX0_missParts 35 (.invokestatic 23) 3 38 := ⟨by decide +kernel, rfl⟩
theorem d_X0_missParts_38 : gd cX0_missParts 38 (.lstore_n 3) 1 39 := ⟨by decide +kernel, rfl⟩
theorem d_X0_missParts_39 : gd cX0_missParts 39 (.lload_n 3) 1 40 := ⟨by decide +kernel, rfl⟩
theorem d_X0_missParts_40 : gd cX0_missParts 40 (.lconst 0) 1 41 := ⟨by decide +kernel, rfl⟩
theorem d_X0_missParts_41 : gd cX0_missParts 41 .lcmp 1 42 := ⟨by decide +kernel, rfl⟩
theorem d_X0_missParts_42 : gd cX0_missParts 42 (.ifCond .gt 7) 3 45 := ⟨by decide +kernel, rfl⟩
theorem d_X0_missParts_45 : gd cX0_missParts 45 (.iconst (-1)) 1 46 := ⟨by decide +kernel, rfl⟩
theorem d_X0_missParts_46 : gd cX0_missParts 46 (.goto 19) 3 49 := ⟨by decide +kernel, rfl⟩
theorem d_X0_missParts_49 : gd cX0_missParts 49 (.aload_n 0) 1 50 := ⟨by decide +kernel, rfl⟩
theorem d_X0_missParts_50 : gd cX0_missParts 50 (.iload_n 2) 1 51 := ⟨by decide +kernel, rfl⟩
theorem d_X0_missParts_51 : gd cX0_missParts 51 (.invokevirtual 27) 3 54 := ⟨by decide +kernel, rfl⟩
theorem d_X0_missParts_54 : gd cX0_missParts 54 (.iload_n 1) 1 55 := ⟨by decide +kernel, rfl⟩
theorem d_X0_missParts_55 : gd cX0_missParts 55 (.invokestatic 23) 3 58 := ⟨by decide +kernel, rfl⟩
theorem d_X0_missParts_58 : gd cX0_missParts 58 (.ldc2_w 31) 3 61 := ⟨by decide +kernel, rfl⟩
theorem d_X0_missParts_61 : gd cX0_missParts 61 .lmul 1 62 := ⟨by decide +kernel, rfl⟩
theorem d_X0_missParts_62 : gd cX0_missParts 62 (.lload_n 3) 1 63 := ⟨by decide +kernel, rfl⟩
theorem d_X0_missParts_63 : gd cX0_missParts 63 .ldiv 1 64 := ⟨by decide +kernel, rfl⟩
theorem d_X0_missParts_64 : gd cX0_missParts 64 .l2i 1 65 := ⟨by decide +kernel, rfl⟩
theorem d_X0_missParts_65 : gd cX0_missParts 65 .ireturn 1 66 := ⟨by decide +kernel, rfl⟩
def D_X0_missParts (x1 : Int32) (x2 : Int32) (μ : gs_M) : Option (Int32 × gs_M) :=
  bd (D_X11_within x1 (1 : Int32) (10 : Int32) μ) (fun v3 u2 => if v3 = 0 then (some ((-1 : Int32), u2)) else (if (gI u2 73 1) < x1 then (some ((-1 : Int32), u2)) else (bd (D_X11_within x2 (0 : Int32) (99 : Int32) u2) (fun v8 u7 => if v8 = 0 then (some ((-1 : Int32), u7)) else (bd (D_X0_choices (gI u7 73 1) x1 u7) (fun v12 u11 => if 0 < (lg_cmp v12 (0 : Int64)) then (bd (D_X0_noneAbove x2 u11) (fun v16 u15 => bd (D_X0_choices v16 x1 u15) (fun v19 u18 => ck (nzl v12) (some (Int64.toInt32 ((v19 * (1000000 : Int64)) / v12), u18))))) else (some ((-1 : Int32), u11))))))))
section S_X0_missParts
variable {p : Program} {l : Launch} {e : Env} {R : Room} {s : State} {m : MethodId} {args : Array Value} {below : List Frame} {meth : Method} {c : Code} {ad : Nat → Nat} {g : va_G} {tyc : Nat → ClassId}
set_option maxRecDepth 20000 in
theorem C_X0_missParts  {x1 : Int32} {x2 : Int32} {μ : gs_M} {r : Int32} {μ2 : gs_M}  (hD : D_X0_missParts x1 x2 μ = some (r, μ2)) : CALL yX0_missParts cX0_missParts 5 (some .int) 1 [.ref 73, .int x1, .int x2] μ (some (.int r)) μ2 := by
  unfold D_X0_missParts at hD
  refine gs_enter mf_X0_missParts (Nat.le_of_ble_eq_true rfl) (ls := [.ref 73, .int x1, .int x2, gs_J, gs_J]) rfl (fun p l e R s m args below meth c ad g tyc hK => ?_)
  have hK : KC p R s m args meth c ad g tyc RX0 cX0_missParts 5 (some .int) 1 := hK
  refine r_iload_n hK d_X0_missParts_0 rfl rfl ?_
  refine r_iconst hK d_X0_missParts_1 ci_1 ?_
  refine r_bipush hK d_X0_missParts_2 cb_10 ?_
  obtain ⟨v3, u2, e1, hD⟩ := bd_e hD
  refine r_callSN (As := [.int x1, .int (1 : Int32), .int (10 : Int32)]) (st := []) (stk2 := [.int v3]) hK (C_X11_within  e1) d_X0_missParts_4 mf_X11_within mn_RX0_19 ss_X11_within rfl (Nat.le_of_ble_eq_true rfl) (by decide) ⟨Nat.zero_le _, Nat.zero_le _⟩ rfl rfl ?_
  refine r_if_eq (tgt := 28) hK d_X0_missParts_7 (by decide) (fun h4 => ?_) (fun h4 => ?_)
  · have hD := if_t hD h4
    refine r_iconst hK d_X0_missParts_28 ci_m1 ?_
    cases hD
    exact r_iret hK d_X0_missParts_29
  · have hD := if_f hD h4
    refine r_iload_n hK d_X0_missParts_10 rfl rfl ?_
    refine r_aload_n hK d_X0_missParts_11 rfl rfl ?_
    refine r_getI hK d_X0_missParts_12 fl_RX0_15_0 rfl kd_73 ?_
    refine r_icmp_gt (tgt := 28) hK d_X0_missParts_15 (by decide) (fun h5 => ?_) (fun h5 => ?_)
    · have hD := if_t hD h5
      refine r_iconst hK d_X0_missParts_28 ci_m1 ?_
      cases hD
      exact r_iret hK d_X0_missParts_29
    · have hD := if_f hD h5
      refine r_iload_n hK d_X0_missParts_18 rfl rfl ?_
      refine r_iconst hK d_X0_missParts_19 ci_0 ?_
      refine r_bipush hK d_X0_missParts_20 cb_99 ?_
      obtain ⟨v8, u7, e6, hD⟩ := bd_e hD
      refine r_callSN (As := [.int x2, .int (0 : Int32), .int (99 : Int32)]) (st := []) (stk2 := [.int v8]) hK (C_X11_within  e6) d_X0_missParts_22 mf_X11_within mn_RX0_19 ss_X11_within rfl (Nat.le_of_ble_eq_true rfl) (by decide) ⟨Nat.zero_le _, Nat.zero_le _⟩ rfl rfl ?_
      refine r_if_ne (tgt := 30) hK d_X0_missParts_25 (by decide) (fun h9 => ?_) (fun h9 => ?_)
      · have hD := if_f hD h9
        refine r_aload_n hK d_X0_missParts_30 rfl rfl ?_
        refine r_getI hK d_X0_missParts_31 fl_RX0_15_0 rfl kd_73 ?_
        refine r_iload_n hK d_X0_missParts_34 rfl rfl ?_
        obtain ⟨v12, u11, e10, hD⟩ := bd_e hD
        refine r_callS (As := [.int (gI u7 73 1), .int x1]) (st := []) (stk2 := [.long v12]) hK (C_X0_choices  e10) d_X0_missParts_35 mf_X0_choices ml_RX0_23 ss_X0_choices rfl (Nat.le_of_ble_eq_true rfl) (by decide) ⟨Nat.zero_le _, Nat.zero_le _⟩ rfl rfl ?_
        refine r_lstore_n hK d_X0_missParts_38 rfl (by decide) (ls2 := [.ref 73, .int x1, .int x2, .long v12, gs_J]) rfl ?_
        refine r_lload_n hK d_X0_missParts_39 rfl rfl ?_
        refine r_lconst hK d_X0_missParts_40 cl_0 ?_
        refine r_lcmp hK d_X0_missParts_41 ?_
        refine r_if_gt (tgt := 49) hK d_X0_missParts_42 (by decide) (fun h13 => ?_) (fun h13 => ?_)
        · have hD := if_t hD h13
          refine r_aload_n hK d_X0_missParts_49 rfl rfl ?_
          refine r_iload_n hK d_X0_missParts_50 rfl rfl ?_
          obtain ⟨v16, u15, e14, hD⟩ := bd_e hD
          refine r_callV (As := [.int x2]) (st := []) (stk2 := [.int v16]) hK (C_X0_noneAbove  e14) d_X0_missParts_51 mf_X0_noneAbove ml_RX0_27 im_X0_noneAbove rfl se_0_RX0_X0_noneAbove kd_73 rfl (Nat.le_of_ble_eq_true rfl) (by decide) ⟨Nat.zero_le _, Nat.zero_le _⟩ rfl rfl ?_
          refine r_iload_n hK d_X0_missParts_54 rfl rfl ?_
          obtain ⟨v19, u18, e17, hD⟩ := bd_e hD
          refine r_callS (As := [.int v16, .int x1]) (st := []) (stk2 := [.long v19]) hK (C_X0_choices  e17) d_X0_missParts_55 mf_X0_choices ml_RX0_23 ss_X0_choices rfl (Nat.le_of_ble_eq_true rfl) (by decide) ⟨Nat.zero_le _, Nat.zero_le _⟩ rfl rfl ?_
          refine r_ldc2 hK d_X0_missParts_58 kl_RX0_31 ?_
          refine r_lmul hK d_X0_missParts_61 ?_
          refine r_lload_n hK d_X0_missParts_62 rfl rfl ?_
          obtain ⟨h20, hD⟩ := ck_e hD
          refine r_ldiv hK d_X0_missParts_63 (nzl_e h20) ?_
          refine r_l2i hK d_X0_missParts_64 ?_
          cases hD
          exact r_iret hK d_X0_missParts_65
        · have hD := if_f hD h13
          refine r_iconst hK d_X0_missParts_45 ci_m1 ?_
          refine r_goto (tgt := 65) hK d_X0_missParts_46 (by decide) ?_
          cases hD
          exact r_iret hK d_X0_missParts_65
      · have hD := if_t hD h9
        refine r_iconst hK d_X0_missParts_28 ci_m1 ?_
        cases hD
        exact r_iret hK d_X0_missParts_29
end S_X0_missParts
theorem d_X1_takeStuff_0 : gd cX1_takeStuff 0 (.aload_n 0) 1 1 := ⟨by decide +kernel, rfl⟩
theorem d_X1_takeStuff_1 : gd cX1_takeStuff 1 (.aload_n 1) 1 2 := ⟨by decide +kernel, rfl⟩
theorem d_X1_takeStuff_2 : gd cX1_takeStuff 2 (.iload_n 2) 1 3 := ⟨by decide +kernel, rfl⟩
theorem d_X1_takeStuff_3 : gd cX1_takeStuff 3 (.iconst 0) 1 4 := ⟨by decide +kernel, rfl⟩
theorem d_X1_takeStuff_4 : gd cX1_takeStuff 4 (.iconst 0) 1 5 := ⟨by decide +kernel, rfl⟩
theorem d_X1_takeStuff_5 : gd cX1_takeStuff 5 (.invokevirtual 22) 3 8 := ⟨by decide +kernel, rfl⟩
theorem d_X1_takeStuff_8 : gd cX1_takeStuff 8 (.putfield 28) 3 11 := ⟨by decide +kernel, rfl⟩
theorem d_X1_takeStuff_11 : gd cX1_takeStuff 11 (.aload_n 0) 1 12 := ⟨by decide +kernel, rfl⟩
theorem d_X1_takeStuff_12 : gd cX1_takeStuff 12 (.aload_n 1) 1 13 := ⟨by decide +kernel, rfl⟩
theorem d_X1_takeStuff_13 : gd cX1_takeStuff 13 (.iload_n 2) 1 14 := ⟨by decide +kernel, rfl⟩
theorem d_X1_takeStuff_14 : gd cX1_takeStuff 14 (.iconst 0) 1 15 := ⟨by decide +kernel, rfl⟩
theorem d_X1_takeStuff_15 : gd cX1_takeStuff 15 (.iconst 1) 1 16 := ⟨by decide +kernel, rfl⟩
theorem d_X1_takeStuff_16 : gd cX1_takeStuff 16 (.invokevirtual 22) 3 19 := ⟨by decide +kernel, rfl⟩
theorem d_X1_takeStuff_19 : gd cX1_takeStuff 19 (.putfield 31) 3 22 := ⟨by decide +kernel, rfl⟩
theorem d_X1_takeStuff_22 : gd cX1_takeStuff 22 (.aload_n 0) 1 23 := ⟨by decide +kernel, rfl⟩
theorem d_X1_takeStuff_23 : gd cX1_takeStuff 23 (.aload_n 1) 1 24 := ⟨by decide +kernel, rfl⟩
theorem d_X1_takeStuff_24 : gd cX1_takeStuff 24 (.iload_n 2) 1 25 := ⟨by decide +kernel, rfl⟩
theorem d_X1_takeStuff_25 : gd cX1_takeStuff 25 (.iconst 0) 1 26 := ⟨by decide +kernel, rfl⟩
theorem d_X1_takeStuff_26 : gd cX1_takeStuff 26 (.iconst 2) 1 27 := ⟨by decide +kernel, rfl⟩
theorem d_X1_takeStuff_27 : gd cX1_takeStuff 27 (.invokevirtual 22) 3 30 := ⟨by decide +kernel, rfl⟩
theorem d_X1_takeStuff_30 : gd cX1_takeStuff 30 (.putfield 34) 3 33 := ⟨by decide +kernel, rfl⟩
theorem d_X1_takeStuff_33 : gd cX1_takeStuff 33 (.aload_n 0) 1 34 := ⟨by decide +kernel, rfl⟩
theorem d_X1_takeStuff_34 : gd cX1_takeStuff 34 (.aload_n 1) 1 35 := ⟨by decide +kernel, rfl⟩
theorem d_X1_takeStuff_35 : gd cX1_takeStuff 35 (.iload_n 2) 1 36 := ⟨by decide +kernel, rfl⟩
theorem d_X1_takeStuff_36 : gd cX1_takeStuff 36 (.iconst 0) 1 37 := ⟨by decide +kernel, rfl⟩
theorem d_X1_takeStuff_37 : gd cX1_takeStuff 37 (.iconst 3) 1 38 := ⟨by decide +kernel, rfl⟩
theorem d_X1_takeStuff_38 : gd cX1_takeStuff 38 (.invokevirtual 22) 3 41 := ⟨by decide +kernel, rfl⟩
theorem d_X1_takeStuff_41 : gd cX1_takeStuff 41 (.putfield 37) 3 44 := ⟨by decide +kernel, rfl⟩
theorem d_X1_takeStuff_44 : gd cX1_takeStuff 44 (.aload_n 0) 1 45 := ⟨by decide +kernel, rfl⟩
theorem d_X1_takeStuff_45 : gd cX1_takeStuff 45 (.aload_n 1) 1 46 := ⟨by decide +kernel, rfl⟩
theorem d_X1_takeStuff_46 : gd cX1_takeStuff 46 (.iload_n 2) 1 47 := ⟨by decide +kernel, rfl⟩
theorem d_X1_takeStuff_47 : gd cX1_takeStuff 47 (.iconst 0) 1 48 := ⟨by decide +kernel, rfl⟩
theorem d_X1_takeStuff_48 : gd cX1_takeStuff 48 (.iconst 4) 1 49 := ⟨by decide +kernel, rfl⟩
theorem d_X1_takeStuff_49 : gd cX1_takeStuff 49 (.invokevirtual 22) 3 52 := ⟨by decide +kernel, rfl⟩
theorem d_X1_takeStuff_52 : gd cX1_takeStuff 52 (.putfield 40) 3 55 := ⟨by decide +kernel, rfl⟩
theorem d_X1_takeStuff_55 : gd cX1_takeStuff 55 .return_ 1 56 := ⟨by decide +kernel, rfl⟩
def D_X1_takeStuff (a0 : Nat) (a1 : Nat) (x2 : Int32) (μ : gs_M) : Option (gs_M) :=
  bd (D_X9_number a1 x2 (0 : Int32) (0 : Int32) μ) (fun v3 u2 => lt1 (sI u2 a0 9 v3) (fun u4 => bd (D_X9_number a1 x2 (0 : Int32) (1 : Int32) u4) (fun v7 u6 => lt1 (sI u6 a0 10 v7) (fun u8 => bd (D_X9_number a1 x2 (0 : Int32) (2 : Int32) u8) (fun v11 u10 => lt1 (sI u10 a0 11 v11) (fun u12 => bd (D_X9_number a1 x2 (0 : Int32) (3 : Int32) u12) (fun v15 u14 => lt1 (sI u14 a0 12 v15) (fun u16 => bd (D_X9_number a1 x2 (0 : Int32) (4 : Int32) u16) (fun v19 u18 => lt1 (sI u18 a0 13 v19) (fun u20 => some u20))))))))))
section S_X1_takeStuff
variable {p : Program} {l : Launch} {e : Env} {R : Room} {s : State} {m : MethodId} {args : Array Value} {below : List Frame} {meth : Method} {c : Code} {ad : Nat → Nat} {g : va_G} {tyc : Nat → ClassId}
set_option maxRecDepth 20000 in
theorem C_X1_takeStuff  {a0 : Nat} {a1 : Nat} {x2 : Int32} {μ : gs_M} {μ2 : gs_M} (hk0 : kd a0 = 1) (hk1 : kd a1 = 8) (hD : D_X1_takeStuff a0 a1 x2 μ = some μ2) : CALL yX1_takeStuff cX1_takeStuff 3 none 2 [.ref a0, .ref a1, .int x2] μ none μ2 := by
  unfold D_X1_takeStuff at hD
  refine gs_enter mf_X1_takeStuff (Nat.le_of_ble_eq_true rfl) (ls := [.ref a0, .ref a1, .int x2]) rfl (fun p l e R s m args below meth c ad g tyc hK => ?_)
  have hK : KC p R s m args meth c ad g tyc RX1 cX1_takeStuff 3 none 2 := hK
  refine r_aload_n hK d_X1_takeStuff_0 rfl rfl ?_
  refine r_aload_n hK d_X1_takeStuff_1 rfl rfl ?_
  refine r_iload_n hK d_X1_takeStuff_2 rfl rfl ?_
  refine r_iconst hK d_X1_takeStuff_3 ci_0 ?_
  refine r_iconst hK d_X1_takeStuff_4 ci_0 ?_
  obtain ⟨v3, u2, e1, hD⟩ := bd_e hD
  refine r_callV (As := [.int x2, .int (0 : Int32), .int (0 : Int32)]) (st := [.ref a0]) (stk2 := [.int v3, .ref a0]) hK (C_X9_number hk1 e1) d_X1_takeStuff_5 mf_X9_number ml_RX1_22 im_X9_number rfl se_8_RX9_X9_number hk1 rfl (Nat.le_of_ble_eq_true rfl) (by decide) ⟨Nat.zero_le _, Nat.zero_le _⟩ rfl rfl ?_
  refine r_putI hK d_X1_takeStuff_8 fl_RX1_28_1 rfl rfl hk0 ?_
  refine r_ltm hD (fun u4 hD => ?_)
  refine r_aload_n hK d_X1_takeStuff_11 rfl rfl ?_
  refine r_aload_n hK d_X1_takeStuff_12 rfl rfl ?_
  refine r_iload_n hK d_X1_takeStuff_13 rfl rfl ?_
  refine r_iconst hK d_X1_takeStuff_14 ci_0 ?_
  refine r_iconst hK d_X1_takeStuff_15 ci_1 ?_
  obtain ⟨v7, u6, e5, hD⟩ := bd_e hD
  refine r_callV (As := [.int x2, .int (0 : Int32), .int (1 : Int32)]) (st := [.ref a0]) (stk2 := [.int v7, .ref a0]) hK (C_X9_number hk1 e5) d_X1_takeStuff_16 mf_X9_number ml_RX1_22 im_X9_number rfl se_8_RX9_X9_number hk1 rfl (Nat.le_of_ble_eq_true rfl) (by decide) ⟨Nat.zero_le _, Nat.zero_le _⟩ rfl rfl ?_
  refine r_putI hK d_X1_takeStuff_19 fl_RX1_31_1 rfl rfl hk0 ?_
  refine r_ltm hD (fun u8 hD => ?_)
  refine r_aload_n hK d_X1_takeStuff_22 rfl rfl ?_
  refine r_aload_n hK d_X1_takeStuff_23 rfl rfl ?_
  refine r_iload_n hK d_X1_takeStuff_24 rfl rfl ?_
  refine r_iconst hK d_X1_takeStuff_25 ci_0 ?_
  refine r_iconst hK d_X1_takeStuff_26 ci_2 ?_
  obtain ⟨v11, u10, e9, hD⟩ := bd_e hD
  refine r_callV (As := [.int x2, .int (0 : Int32), .int (2 : Int32)]) (st := [.ref a0]) (stk2 := [.int v11, .ref a0]) hK (C_X9_number hk1 e9) d_X1_takeStuff_27 mf_X9_number ml_RX1_22 im_X9_number rfl se_8_RX9_X9_number hk1 rfl (Nat.le_of_ble_eq_true rfl) (by decide) ⟨Nat.zero_le _, Nat.zero_le _⟩ rfl rfl ?_
  refine r_putI hK d_X1_takeStuff_30 fl_RX1_34_1 rfl rfl hk0 ?_
  refine r_ltm hD (fun u12 hD => ?_)
  refine r_aload_n hK d_X1_takeStuff_33 rfl rfl ?_
  refine r_aload_n hK d_X1_takeStuff_34 rfl rfl ?_
  refine r_iload_n hK d_X1_takeStuff_35 rfl rfl ?_
  refine r_iconst hK d_X1_takeStuff_36 ci_0 ?_
  refine r_iconst hK d_X1_takeStuff_37 ci_3 ?_
  obtain ⟨v15, u14, e13, hD⟩ := bd_e hD
  refine r_callV (As := [.int x2, .int (0 : Int32), .int (3 : Int32)]) (st := [.ref a0]) (stk2 := [.int v15, .ref a0]) hK (C_X9_number hk1 e13) d_X1_takeStuff_38 mf_X9_number ml_RX1_22 im_X9_number rfl se_8_RX9_X9_number hk1 rfl (Nat.le_of_ble_eq_true rfl) (by decide) ⟨Nat.zero_le _, Nat.zero_le _⟩ rfl rfl ?_
  refine r_putI hK d_X1_takeStuff_41 fl_RX1_37_1 rfl rfl hk0 ?_
  refine r_ltm hD (fun u16 hD => ?_)
  refine r_aload_n hK d_X1_takeStuff_44 rfl rfl ?_
  refine r_aload_n hK d_X1_takeStuff_45 rfl rfl ?_
  refine r_iload_n hK d_X1_takeStuff_46 rfl rfl ?_
  refine r_iconst hK d_X1_takeStuff_47 ci_0 ?_
  refine r_iconst hK d_X1_takeStuff_48 ci_4 ?_
  obtain ⟨v19, u18, e17, hD⟩ := bd_e hD
  refine r_callV (As := [.int x2, .int (0 : Int32), .int (4 : Int32)]) (st := [.ref a0]) (stk2 := [.int v19, .ref a0]) hK (C_X9_number hk1 e17) d_X1_takeStuff_49 mf_X9_number ml_RX1_22 im_X9_number rfl se_8_RX9_X9_number hk1 rfl (Nat.le_of_ble_eq_true rfl) (by decide) ⟨Nat.zero_le _, Nat.zero_le _⟩ rfl rfl ?_
  refine r_putI hK d_X1_takeStuff_52 fl_RX1_40_1 rfl rfl hk0 ?_
  refine r_ltm hD (fun u20 hD => ?_)
  cases hD
  exact r_vret hK d_X1_takeStuff_55
end S_X1_takeStuff
