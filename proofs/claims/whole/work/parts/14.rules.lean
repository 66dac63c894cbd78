theorem fn_RX6_9 : Cond.fieldLinkNest RX6 9 "GrainShift" "RULE_LETTERS" "[C" "GrainShift" ∈ gs_nest := gs_n 124 (by decide +kernel) (by decide +kernel)
theorem mf_X6_letterOf : gs_MF yX6_letterOf cX6_letterOf 2 (some .int) 1 := ⟨gs_t 485 (by decide +kernel) (by decide +kernel), gs_t 7 (by decide +kernel) (by decide +kernel), by decide, by decide, by decide +kernel, by decide, by decide⟩
theorem fl_RX6_30_5 : gs_FL RX6 30 "GrainShift$Rules" 5 1 (RX6, TX6, 6) := ⟨rfl, by decide, gs_t 130 (by decide +kernel) (by decide +kernel), Or.inl rfl⟩
theorem fl_RX6_34_4 : gs_FL RX6 34 "GrainShift$RuleReading" 4 4 (RX5, TX5, 5) := ⟨rfl, by decide, gs_t 89 (by decide +kernel) (by decide +kernel), Or.inl rfl⟩
theorem fl_RX6_24_5 : gs_FL RX6 24 "GrainShift$Rules" 5 3 (RX6, TX6, 6) := ⟨rfl, by decide, gs_t 133 (by decide +kernel) (by decide +kernel), Or.inl rfl⟩
theorem fl_RX6_21_5 : gs_FL RX6 21 "GrainShift$Rules" 5 2 (RX6, TX6, 6) := ⟨rfl, by decide, gs_t 132 (by decide +kernel) (by decide +kernel), Or.inl rfl⟩
theorem fl_RX6_39_4 : gs_FL RX6 39 "GrainShift$RuleReading" 4 3 (RX5, TX5, 5) := ⟨rfl, by decide, gs_t 87 (by decide +kernel) (by decide +kernel), Or.inl rfl⟩
theorem mf_X6_keep : gs_MF yX6_keep cX6_keep 3 (some .int) 1 := ⟨gs_t 560 (by decide +kernel) (by decide +kernel), gs_t 7 (by decide +kernel) (by decide +kernel), by decide, by decide, by decide +kernel, by decide, by decide⟩
theorem fl_RX6_46_5 : gs_FL RX6 46 "GrainShift$Rules" 5 5 (RX6, TX6, 6) := ⟨rfl, by decide, gs_t 135 (by decide +kernel) (by decide +kernel), Or.inl rfl⟩
theorem fl_RX6_27_5 : gs_FL RX6 27 "GrainShift$Rules" 5 4 (RX6, TX6, 6) := ⟨rfl, by decide, gs_t 134 (by decide +kernel) (by decide +kernel), Or.inl rfl⟩
theorem mf_X6_pop : gs_MF yX6_pop cX6_pop 1 (some .int) 0 := ⟨gs_t 1008 (by decide +kernel) (by decide +kernel), gs_t 7 (by decide +kernel) (by decide +kernel), by decide, by decide, by decide +kernel, by decide, by decide⟩
theorem kl_RX6_73 : Cond.constantLong RX6 73 (1000000) ∈ gs_tbl := gs_t 1023 (by decide +kernel) (by decide +kernel)
theorem kl_RX6_75 : Cond.constantLong RX6 75 (-1000000) ∈ gs_tbl := gs_t 1024 (by decide +kernel) (by decide +kernel)
theorem kc_RX6_77 : Cond.constant RX6 77 (-1000000) ∈ gs_tbl := gs_t 1025 (by decide +kernel) (by decide +kernel)
theorem kc_RX6_68 : Cond.constant RX6 68 (1000000) ∈ gs_tbl := gs_t 1021 (by decide +kernel) (by decide +kernel)
theorem mn_RX6_69 : Cond.methodLinkNest RX6 69 yX11_held "GrainShift" ∈ gs_nest := gs_n 1022 (by decide +kernel) (by decide +kernel)
theorem mf_X6_joined : gs_MF yX6_joined cX6_joined 5 (some .int) 3 := ⟨gs_t 1020 (by decide +kernel) (by decide +kernel), gs_t 7 (by decide +kernel) (by decide +kernel), by decide, by decide, by decide +kernel, by decide, by decide⟩
theorem mf_X6_push : gs_MF yX6_push cX6_push 2 none 1 := ⟨gs_t 1017 (by decide +kernel) (by decide +kernel), gs_t 7 (by decide +kernel) (by decide +kernel), by decide, by decide, by decide +kernel, by decide, by decide⟩
theorem ml_RX6_57 : Cond.methodLink RX6 57 yX6_letterOf ∈ gs_tbl := gs_t 1013 (by decide +kernel) (by decide +kernel)
theorem ss_X6_letterOf : Cond.static yX6_letterOf ∈ gs_tbl := gs_t 484 (by decide +kernel) (by decide +kernel)
theorem se_5_RX6_X6_pop : Cond.selects RX6 yX6_pop yX6_pop ∈ gs_tbl := gs_s 35 (by decide +kernel) (by decide +kernel)
theorem ml_RX6_49 : Cond.methodLink RX6 49 yX6_pop ∈ gs_tbl := gs_t 1005 (by decide +kernel) (by decide +kernel)
theorem im_X6_pop : Cond.instanceMethod yX6_pop ∈ gs_tbl := gs_t 1007 (by decide +kernel) (by decide +kernel)
theorem ml_RX6_64 : Cond.methodLink RX6 64 yX6_joined ∈ gs_tbl := gs_t 1018 (by decide +kernel) (by decide +kernel)
theorem ss_X6_joined : Cond.static yX6_joined ∈ gs_tbl := gs_t 1019 (by decide +kernel) (by decide +kernel)
theorem se_5_RX6_X6_push : Cond.selects RX6 yX6_push yX6_push ∈ gs_tbl := gs_s 37 (by decide +kernel) (by decide +kernel)
theorem ml_RX6_61 : Cond.methodLink RX6 61 yX6_push ∈ gs_tbl := gs_t 1014 (by decide +kernel) (by decide +kernel)
theorem im_X6_push : Cond.instanceMethod yX6_push ∈ gs_tbl := gs_t 1016 (by decide +kernel) (by decide +kernel)
theorem fl_RX6_13_5 : gs_FL RX6 13 "GrainShift$Rules" 5 0 (RX6, TX6, 6) := ⟨rfl, by decide, gs_t 128 (by decide +kernel) (by decide +kernel), Or.inl rfl⟩
theorem mf_X6_step : gs_MF yX6_step cX6_step 5 none 1 := ⟨gs_t 1012 (by decide +kernel) (by decide +kernel), gs_t 7 (by decide +kernel) (by decide +kernel), by decide, by decide, by decide +kernel, by decide, by decide⟩
theorem mn_RX6_42 : Cond.methodLinkNest RX6 42 yX11_within "GrainShift" ∈ gs_nest := gs_n 1004 (by decide +kernel) (by decide +kernel)
theorem se_5_RX6_X6_step : Cond.selects RX6 yX6_step yX6_step ∈ gs_tbl := gs_s 36 (by decide +kernel) (by decide +kernel)
theorem ml_RX6_53 : Cond.methodLink RX6 53 yX6_step ∈ gs_tbl := gs_t 1009 (by decide +kernel) (by decide +kernel)
theorem im_X6_step : Cond.instanceMethod yX6_step ∈ gs_tbl := gs_t 1011 (by decide +kernel) (by decide +kernel)
theorem mf_X6_worth : gs_MF yX6_worth cX6_worth 6 (some .int) 1 := ⟨gs_t 1003 (by decide +kernel) (by decide +kernel), gs_t 7 (by decide +kernel) (by decide +kernel), by decide, by decide, by decide +kernel, by decide, by decide⟩
theorem d_X6_letterOf_0 : gd cX6_letterOf 0 (.iconst 0) 1 1 := ⟨by decide +kernel, rfl⟩
theorem d_X6_letterOf_1 : gd cX6_letterOf 1 (.istore_n 1) 1 2 := ⟨by decide +kernel, rfl⟩
theorem d_X6_letterOf_2 : gd cX6_letterOf 2 (.iload_n 1) 1 3 := ⟨by decide +kernel, rfl⟩
theorem d_X6_letterOf_3 : gd cX6_letterOf 3 (.getstatic 9) 3 6 := ⟨by decide +kernel, rfl⟩
theorem d_X6_letterOf_6 : gd cX6_letterOf 6 .arraylength 1 7 := ⟨by decide +kernel, rfl⟩
theorem d_X6_letterOf_7 : gd cX6_letterOf 7 (.if_icmp .ge 20) 3 10 := ⟨by decide +kernel, rfl⟩
theorem d_X6_letterOf_10 : gd cX6_letterOf 10 (.getstatic 9) 3 13 := ⟨by decide +kernel, rfl⟩
theorem d_X6_letterOf_13 : gd cX6_letterOf 13 (.iload_n 1) 1 14 := ⟨by decide +kernel, rfl⟩
theorem d_X6_letterOf_14 : gd cX6_letterOf 14 .caload 1 15 := ⟨by decide +kernel, rfl⟩
theorem d_X6_letterOf_15 : gd cX6_letterOf 15 (.iload_n 0) 1 16 := ⟨by decide +kernel, rfl⟩
theorem d_X6_letterOf_16 : gd cX6_letterOf 16 (.if_icmp .ne 5) 3 19 := ⟨by decide +kernel, rfl⟩
theorem d_X6_letterOf_19 : gd cX6_letterOf 19 (.iload_n 1) 1 20 := ⟨by decide +kernel, rfl⟩
theorem d_X6_letterOf_20 : gd cX6_letterOf 20 .ireturn 1 21 := ⟨by decide +kernel, rfl⟩
theorem d_X6_letterOf_21 : gd cX6_letterOf 21 (.iinc 1 1) 3 24 := ⟨by decide +kernel, rfl⟩
theorem d_X6_letterOf_24 : gd cX6_letterOf 24 (.goto (-22)) 3 27 := ⟨by decide +kernel, rfl⟩
theorem d_X6_letterOf_27 : gd cX6_letterOf 27 (.iconst (-1)) 1 28 := ⟨by decide +kernel, rfl⟩
theorem d_X6_letterOf_28 : gd cX6_letterOf 28 .ireturn 1 29 := ⟨by decide +kernel, rfl⟩
def Bo_X6_letterOf_2 (q2 : Int32 → Int32 → gs_M → Option (Int32 × gs_M)) (x0 : Int32) (x1 : Int32) (μ : gs_M) : Option (Int32 × gs_M) :=
  if (6 : Int32) ≤ x1 then (some ((-1 : Int32), μ)) else (ck (inb x1 6) (if (cA 4 (Int32.toNatClampNeg x1)) = x0 then (some (x1, μ)) else (q2 x0 (x1 + (1 : Int32)) μ)))
def L_X6_letterOf_2  : Nat → Int32 → Int32 → gs_M → Option (Int32 × gs_M)
  | 0 => fun _ _ _ => none
  | n + 1 => fun x0 x1 μ => Bo_X6_letterOf_2  (L_X6_letterOf_2  n) x0 x1 μ
def D_X6_letterOf (x0 : Int32) (μ : gs_M) : Option (Int32 × gs_M) :=
  L_X6_letterOf_2 4096 x0 (0 : Int32) μ
section S_X6_letterOf
variable {p : Program} {l : Launch} {e : Env} {R : Room} {s : State} {m : MethodId} {args : Array Value} {below : List Frame} {meth : Method} {c : Code} {ad : Nat → Nat} {g : va_G} {tyc : Nat → ClassId}
set_option maxRecDepth 20000 in
theorem To_X6_letterOf_2  (hK : KC p R s m args meth c ad g tyc RX6 cX6_letterOf 2 (some .int) 0) {r : Int32} {μ2 : gs_M} {q2 : Int32 → Int32 → gs_M → Option (Int32 × gs_M)} (hq2 : ∀ (x0 : Int32) (x1 : Int32) (μ : gs_M), q2 x0 x1 μ = some (r, μ2) → WJ p l e R s m args below meth c 0 0 (MQ below (gs_Q ad g tyc (some (.int r)) μ2) args s 0 0 (gs_A ad)) ad g tyc 2 2 [.int x0, .int x1] [] μ) {x0 : Int32} {x1 : Int32} {μ : gs_M}  (hD : Bo_X6_letterOf_2 q2 x0 x1 μ = some (r, μ2)) : WJ p l e R s m args below meth c 0 0 (MQ below (gs_Q ad g tyc (some (.int r)) μ2) args s 0 0 (gs_A ad)) ad g tyc 2 2 [.int x0, .int x1] [] μ := by
  unfold Bo_X6_letterOf_2 at hD
  refine r_iload_n hK d_X6_letterOf_2 rfl rfl ?_
  refine r_gets (k := 4) hK d_X6_letterOf_3 fn_RX6_9 (fun _ _ q => q.2.2.2.2.1) ?_
  refine r_tlen (k := 4) hK d_X6_letterOf_6 (fun _ _ q => q.2.2.2.2.1) cn_6 ?_
  refine r_icmp_ge (tgt := 27) hK d_X6_letterOf_7 (by decide) (fun h1 => ?_) (fun h1 => ?_)
  · have hD := if_t hD h1
    refine r_iconst hK d_X6_letterOf_27 ci_m1 ?_
    cases hD
    exact r_iret hK d_X6_letterOf_28
  · have hD := if_f hD h1
    refine r_gets (k := 4) hK d_X6_letterOf_10 fn_RX6_9 (fun _ _ q => q.2.2.2.2.1) ?_
    refine r_iload_n hK d_X6_letterOf_13 rfl rfl ?_
    obtain ⟨h2, hD⟩ := ck_e hD
    refine r_tc (k := 4) hK d_X6_letterOf_14 (fun _ _ q => q.2.2.2.2.1) (inb_in h2) ?_
    refine r_iload_n hK d_X6_letterOf_15 rfl rfl ?_
    refine r_icmp_ne (tgt := 21) hK d_X6_letterOf_16 (by decide) (fun h3 => ?_) (fun h3 => ?_)
    · have hD := if_f hD h3
      refine r_iinc hK d_X6_letterOf_21 rfl (v := x1 + (1 : Int32)) (by rw [ci_1]) (by decide) (ls2 := [.int x0, .int (x1 + (1 : Int32))]) rfl ?_
      refine r_goto (tgt := 2) hK d_X6_letterOf_24 (by decide) ?_
      exact hq2 _ _ _  hD
    · have hD := if_t hD h3
      refine r_iload_n hK d_X6_letterOf_19 rfl rfl ?_
      cases hD
      exact r_iret hK d_X6_letterOf_20
set_option maxRecDepth 20000 in
theorem TL_X6_letterOf_2  (hK : KC p R s m args meth c ad g tyc RX6 cX6_letterOf 2 (some .int) 0) {r : Int32} {μ2 : gs_M}   : ∀ (n : Nat) (x0 : Int32) (x1 : Int32) (μ : gs_M), L_X6_letterOf_2  n x0 x1 μ = some (r, μ2) → WJ p l e R s m args below meth c 0 0 (MQ below (gs_Q ad g tyc (some (.int r)) μ2) args s 0 0 (gs_A ad)) ad g tyc 2 2 [.int x0, .int x1] [] μ := by
  intro n
  induction n with
  | zero => intro x0 x1 μ  hD; cases hD
  | succ n ih => intro x0 x1 μ  hD; exact To_X6_letterOf_2 hK  ih  hD
set_option maxRecDepth 20000 in
theorem C_X6_letterOf  {x0 : Int32} {μ : gs_M} {r : Int32} {μ2 : gs_M}  (hD : D_X6_letterOf x0 μ = some (r, μ2)) : CALL yX6_letterOf cX6_letterOf 2 (some .int) 0 [.int x0] μ (some (.int r)) μ2 := by
  unfold D_X6_letterOf at hD
  refine gs_enter mf_X6_letterOf (Nat.le_of_ble_eq_true rfl) (ls := [.int x0, gs_J]) rfl (fun p l e R s m args below meth c ad g tyc hK => ?_)
  have hK : KC p R s m args meth c ad g tyc RX6 cX6_letterOf 2 (some .int) 0 := hK
  refine r_iconst hK d_X6_letterOf_0 ci_0 ?_
  refine r_istore_n hK d_X6_letterOf_1 rfl (by decide) (ls2 := [.int x0, .int (0 : Int32)]) rfl ?_
  exact TL_X6_letterOf_2 hK  _ _ _ _  hD
end S_X6_letterOf
theorem d_X6_keep_0 : gd cX6_keep 0 (.aload_n 0) 1 1 := ⟨by decide +kernel, rfl⟩
theorem d_X6_keep_1 : gd cX6_keep 1 (.getfield 30) 3 4 := ⟨by decide +kernel, rfl⟩
theorem d_X6_keep_4 : gd cX6_keep 4 (.iconst 4) 1 5 := ⟨by decide +kernel, rfl⟩
theorem d_X6_keep_5 : gd cX6_keep 5 (.if_icmp .lt 5) 3 8 := ⟨by decide +kernel, rfl⟩
theorem d_X6_keep_8 : gd cX6_keep 8 (.iconst (-1)) 1 9 := ⟨by decide +kernel, rfl⟩
theorem d_X6_keep_9 : gd cX6_keep 9 .ireturn 1 10 := ⟨by decide +kernel, rfl⟩
theorem d_X6_keep_10 : gd cX6_keep 10 (.iconst 0) 1 11 := ⟨by decide +kernel, rfl⟩
theorem d_X6_keep_11 : gd cX6_keep 11 (.istore_n 2) 1 12 := ⟨by decide +kernel, rfl⟩
theorem d_X6_keep_12 : gd cX6_keep 12 (.iload_n 2) 1 13 := ⟨by decide +kernel, rfl⟩
theorem d_X6_keep_13 : gd cX6_keep 13 (.aload_n 1) 1 14 := ⟨by decide +kernel, rfl⟩
theorem d_X6_keep_14 : gd cX6_keep 14 (.getfield 34) 3 17 := ⟨by decide +kernel, rfl⟩
theorem d_X6_keep_17 : gd cX6_keep 17 (.if_icmp .ge 26) 3 20 := ⟨by decide +kernel, rfl⟩
theorem d_X6_keep_20 : gd cX6_keep 20 (.aload_n 0) 1 21 := ⟨by decide +kernel, rfl⟩
theorem d_X6_keep_21 : gd cX6_keep 21 (.getfield 21) 3 24 := ⟨by decide +kernel, rfl⟩
theorem d_X6_keep_24 : gd cX6_keep 24 (.aload_n 0) 1 25 := ⟨by decide +kernel, rfl⟩
theorem d_X6_keep_25 : gd cX6_keep 25 (.getfield 30) 3 28 := ⟨by decide +kernel, rfl⟩
theorem d_X6_keep_28 : gd cX6_keep 28 .aaload 1 29 := ⟨by decide +kernel, rfl⟩
theorem d_X6_keep_29 : gd cX6_keep 29 (.iload_n 2) 1 30 := ⟨by decide +kernel, rfl⟩
theorem d_X6_keep_30 : gd cX6_keep 30 (.aload_n 1) 1 31 := ⟨by decide +kernel, rfl⟩
theorem d_X6_keep_31 : gd cX6_keep 31 (.getfield 39) 3 34 := ⟨by decide +kernel, rfl⟩
theorem d_X6_keep_34 : gd cX6_keep 34 (.iload_n 2) 1 35 := ⟨by decide +kernel, rfl⟩
theorem d_X6_keep_35 : gd cX6_keep 35 .iaload 1 36 := ⟨by decide +kernel, rfl⟩
theorem d_X6_keep_36 : gd cX6_keep 36 .iastore 1 37 := ⟨by decide +kernel, rfl⟩
theorem d_X6_keep_37 : gd cX6_keep 37 (.iinc 2 1) 3 40 := ⟨by decide +kernel, rfl⟩
theorem d_X6_keep_40 : gd cX6_keep 40 (.goto (-28)) 3 43 := ⟨by decide +kernel, rfl⟩
theorem d_X6_keep_43 : gd cX6_keep 43 (.aload_n 0) 1 44 := ⟨by decide +kernel, rfl⟩
theorem d_X6_keep_44 : gd cX6_keep 44 (.getfield 24) 3 47 := ⟨by decide +kernel, rfl⟩
theorem d_X6_keep_47 : gd cX6_keep 47 (.aload_n 0) 1 48 := ⟨by decide +kernel, rfl⟩
theorem d_X6_keep_48 : gd cX6_keep 48 (.getfield 30) 3 51 := ⟨by decide +kernel, rfl⟩
theorem d_X6_keep_51 : gd cX6_keep 51 (.aload_n 1) 1 52 := ⟨by decide +kernel, rfl⟩
theorem d_X6_keep_52 : gd cX6_keep 52 (.getfield 34) 3 55 := ⟨by decide +kernel, rfl⟩
theorem d_X6_keep_55 : gd cX6_keep 55 .iastore 1 56 := ⟨by decide +kernel, rfl⟩
theorem d_X6_keep_56 : gd cX6_keep 56 (.aload_n 0) 1 57 := ⟨by decide +kernel, rfl⟩
theorem d_X6_keep_57 : gd cX6_keep 57 .dup 1 58 := ⟨by decide +kernel, rfl⟩
theorem d_X6_keep_58 : gd cX6_keep 58 (.getfield 30) 3 61 := ⟨by decide +kernel, rfl⟩
theorem d_X6_keep_61 : gd cX6_keep 61 (.iconst 1) 1 62 := ⟨by decide +kernel, rfl⟩
theorem d_X6_keep_62 : gd cX6_keep 62 .iadd 1 63 := ⟨by decide +kernel, rfl⟩
theorem d_X6_keep_63 : gd cX6_keep 63 (.putfield 30) 3 66 := ⟨by decide +kernel, rfl⟩
theorem d_X6_keep_66 : gd cX6_keep 66 (.aload_n 0) 1 67 := ⟨by decide +kernel, rfl⟩
theorem d_X6_keep_67 : gd cX6_keep 67 (.getfield 30) 3 70 := ⟨by decide +kernel, rfl⟩
theorem d_X6_keep_70 : gd cX6_keep 70 (.iconst 1) 1 71 := ⟨by decide +kernel, rfl⟩
theorem d_X6_keep_71 : gd cX6_keep 71 .isub 1 72 := ⟨by decide +kernel, rfl⟩
theorem d_X6_keep_72 : gd cX6_keep 72 .ireturn 1 73 := ⟨by decide +kernel, rfl⟩
def Bo_X6_keep_12 (q12 : Int32 → gs_M → Option (Int32 × gs_M)) (x2 : Int32) (μ : gs_M) : Option (Int32 × gs_M) :=
  if (gI μ 5 4) ≤ x2 then (ck (inb (gI μ 16 1) 4) (lt1 (sI μ 23 (Int32.toNatClampNeg (gI μ 16 1)) (gI μ 5 4)) (fun u3 => lt1 (sI u3 16 1 ((gI u3 16 1) + (1 : Int32))) (fun u4 => some ((gI u4 16 1) - (1 : Int32), u4))))) else (ck (inb (gI μ 16 1) 4) (ck (inb x2 160) (ck (inb x2 160) (lt1 (sI μ (19 + Int32.toNatClampNeg (gI μ 16 1)) (Int32.toNatClampNeg x2) (gI μ 6 (Int32.toNatClampNeg x2))) (fun u8 => q12 (x2 + (1 : Int32)) u8)))))
def L_X6_keep_12  : Nat → Int32 → gs_M → Option (Int32 × gs_M)
  | 0 => fun _ _ => none
  | n + 1 => fun x2 μ => Bo_X6_keep_12  (L_X6_keep_12  n) x2 μ
def D_X6_keep  (μ : gs_M) : Option (Int32 × gs_M) :=
  if (gI μ 16 1) < (4 : Int32) then (L_X6_keep_12 4096 (0 : Int32) μ) else (some ((-1 : Int32), μ))
section S_X6_keep
variable {p : Program} {l : Launch} {e : Env} {R : Room} {s : State} {m : MethodId} {args : Array Value} {below : List Frame} {meth : Method} {c : Code} {ad : Nat → Nat} {g : va_G} {tyc : Nat → ClassId}
set_option maxRecDepth 20000 in
theorem To_X6_keep_12  (hK : KC p R s m args meth c ad g tyc RX6 cX6_keep 3 (some .int) 0) {r : Int32} {μ2 : gs_M} {q12 : Int32 → gs_M → Option (Int32 × gs_M)} (hq12 : ∀ (x2 : Int32) (μ : gs_M), q12 x2 μ = some (r, μ2) → WJ p l e R s m args below meth c 0 0 (MQ below (gs_Q ad g tyc (some (.int r)) μ2) args s 0 0 (gs_A ad)) ad g tyc 3 12 [.ref 16, .ref 5, .int x2] [] μ) {x2 : Int32} {μ : gs_M}  (hD : Bo_X6_keep_12 q12 x2 μ = some (r, μ2)) : WJ p l e R s m args below meth c 0 0 (MQ below (gs_Q ad g tyc (some (.int r)) μ2) args s 0 0 (gs_A ad)) ad g tyc 3 12 [.ref 16, .ref 5, .int x2] [] μ := by
  unfold Bo_X6_keep_12 at hD
  refine r_iload_n hK d_X6_keep_12 rfl rfl ?_
  refine r_aload_n hK d_X6_keep_13 rfl rfl ?_
  refine r_getI hK d_X6_keep_14 fl_RX6_34_4 rfl kd_5 ?_
  refine r_icmp_ge (tgt := 43) hK d_X6_keep_17 (by decide) (fun h1 => ?_) (fun h1 => ?_)
  · have hD := if_t hD h1
    refine r_aload_n hK d_X6_keep_43 rfl rfl ?_
    refine r_getR hK d_X6_keep_44 fl_RX6_24_5 rfl kd_16 ?_
    refine r_ref (b := 23) R0_16_3 ?_
    refine r_aload_n hK d_X6_keep_47 rfl rfl ?_
    refine r_getI hK d_X6_keep_48 fl_RX6_30_5 rfl kd_16 ?_
    refine r_aload_n hK d_X6_keep_51 rfl rfl ?_
    refine r_getI hK d_X6_keep_52 fl_RX6_34_4 rfl kd_5 ?_
    obtain ⟨h2, hD⟩ := ck_e hD
    refine r_iast hK d_X6_keep_55 kd_23 ln_23 (inb_in h2) ?_
    refine r_ltm hD (fun u3 hD => ?_)
    refine r_aload_n hK d_X6_keep_56 rfl rfl ?_
    refine r_dup hK d_X6_keep_57 rfl ?_
    refine r_getI hK d_X6_keep_58 fl_RX6_30_5 rfl kd_16 ?_
    refine r_iconst hK d_X6_keep_61 ci_1 ?_
    refine r_iadd hK d_X6_keep_62 ?_
    refine r_putI hK d_X6_keep_63 fl_RX6_30_5 rfl rfl kd_16 ?_
    refine r_ltm hD (fun u4 hD => ?_)
    refine r_aload_n hK d_X6_keep_66 rfl rfl ?_
    refine r_getI hK d_X6_keep_67 fl_RX6_30_5 rfl kd_16 ?_
    refine r_iconst hK d_X6_keep_70 ci_1 ?_
    refine r_isub hK d_X6_keep_71 ?_
    cases hD
    exact r_iret hK d_X6_keep_72
  · have hD := if_f hD h1
    refine r_aload_n hK d_X6_keep_20 rfl rfl ?_
    refine r_getR hK d_X6_keep_21 fl_RX6_21_5 rfl kd_16 ?_
    refine r_ref (b := 18) R0_16_2 ?_
    refine r_aload_n hK d_X6_keep_24 rfl rfl ?_
    refine r_getI hK d_X6_keep_25 fl_RX6_30_5 rfl kd_16 ?_
    obtain ⟨h5, hD⟩ := ck_e hD
    refine r_aaldJ hK d_X6_keep_28 kd_18 ln_18 (inb_in h5) ?_
    refine r_ref (b := (19 + Int32.toNatClampNeg (gI μ 16 1))) ((ly_18 _ (inb_lt h5)).1) ?_
    refine r_iload_n hK d_X6_keep_29 rfl rfl ?_
    refine r_aload_n hK d_X6_keep_30 rfl rfl ?_
    refine r_getR hK d_X6_keep_31 fl_RX6_39_4 rfl kd_5 ?_
    refine r_ref (b := 6) R0_5_3 ?_
    refine r_iload_n hK d_X6_keep_34 rfl rfl ?_
    obtain ⟨h6, hD⟩ := ck_e hD
    refine r_iald hK d_X6_keep_35 kd_6 ln_6 (inb_in h6) ?_
    obtain ⟨h7, hD⟩ := ck_e hD
    refine r_iast hK d_X6_keep_36 ((ly_18 _ (inb_lt h5)).2.1) ((ly_18 _ (inb_lt h5)).2.2) (inb_in h7) ?_
    refine r_ltm hD (fun u8 hD => ?_)
    refine r_iinc hK d_X6_keep_37 rfl (v := x2 + (1 : Int32)) (by rw [ci_1]) (by decide) (ls2 := [.ref 16, .ref 5, .int (x2 + (1 : Int32))]) rfl ?_
    refine r_goto (tgt := 12) hK d_X6_keep_40 (by decide) ?_
    exact hq12 _ _  hD
set_option maxRecDepth 20000 in
theorem TL_X6_keep_12  (hK : KC p R s m args meth c ad g tyc RX6 cX6_keep 3 (some .int) 0) {r : Int32} {μ2 : gs_M}   : ∀ (n : Nat) (x2 : Int32) (μ : gs_M), L_X6_keep_12  n x2 μ = some (r, μ2) → WJ p l e R s m args below meth c 0 0 (MQ below (gs_Q ad g tyc (some (.int r)) μ2) args s 0 0 (gs_A ad)) ad g tyc 3 12 [.ref 16, .ref 5, .int x2] [] μ := by
  intro n
  induction n with
  | zero => intro x2 μ  hD; cases hD
  | succ n ih => intro x2 μ  hD; exact To_X6_keep_12 hK  ih  hD
set_option maxRecDepth 20000 in
theorem C_X6_keep   {μ : gs_M} {r : Int32} {μ2 : gs_M}  (hD : D_X6_keep  μ = some (r, μ2)) : CALL yX6_keep cX6_keep 3 (some .int) 0 [.ref 16, .ref 5] μ (some (.int r)) μ2 := by
  unfold D_X6_keep at hD
  refine gs_enter mf_X6_keep (Nat.le_of_ble_eq_true rfl) (ls := [.ref 16, .ref 5, gs_J]) rfl (fun p l e R s m args below meth c ad g tyc hK => ?_)
  have hK : KC p R s m args meth c ad g tyc RX6 cX6_keep 3 (some .int) 0 := hK
  refine r_aload_n hK d_X6_keep_0 rfl rfl ?_
  refine r_getI hK d_X6_keep_1 fl_RX6_30_5 rfl kd_16 ?_
  refine r_iconst hK d_X6_keep_4 ci_4 ?_
  refine r_icmp_lt (tgt := 10) hK d_X6_keep_5 (by decide) (fun h1 => ?_) (fun h1 => ?_)
  · have hD := if_t hD h1
    refine r_iconst hK d_X6_keep_10 ci_0 ?_
    refine r_istore_n hK d_X6_keep_11 rfl (by decide) (ls2 := [.ref 16, .ref 5, .int (0 : Int32)]) rfl ?_
    exact TL_X6_keep_12 hK  _ _ _  hD
  · have hD := if_f hD h1
    refine r_iconst hK d_X6_keep_8 ci_m1 ?_
    cases hD
    exact r_iret hK d_X6_keep_9
end S_X6_keep
theorem d_X6_pop_0 : gd cX6_pop 0 (.aload_n 0) 1 1 := ⟨by decide +kernel, rfl⟩
theorem d_X6_pop_1 : gd cX6_pop 1 (.getfield 46) 3 4 := ⟨by decide +kernel, rfl⟩
theorem d_X6_pop_4 : gd cX6_pop 4 (.ifCond .gt 5) 3 7 := ⟨by decide +kernel, rfl⟩
theorem d_X6_pop_7 : gd cX6_pop 7 (.iconst 0) 1 8 := ⟨by decide +kernel, rfl⟩
theorem d_X6_pop_8 : gd cX6_pop 8 .ireturn 1 9 := ⟨by decide +kernel, rfl⟩
theorem d_X6_pop_9 : gd cX6_pop 9 (.aload_n 0) 1 10 := ⟨by decide +kernel, rfl⟩
theorem d_X6_pop_10 : gd cX6_pop 10 .dup 1 11 := ⟨by decide +kernel, rfl⟩
theorem d_X6_pop_11 : gd cX6_pop 11 (.getfield 46) 3 14 := ⟨by decide +kernel, rfl⟩
theorem d_X6_pop_14 : gd cX6_pop 14 (.iconst 1) 1 15 := ⟨by decide +kernel, rfl⟩
theorem d_X6_pop_15 : gd cX6_pop 15 .isub 1 16 := ⟨by decide +kernel, rfl⟩
theorem d_X6_pop_16 : gd cX6_pop 16 (.putfield 46) 3 19 := ⟨by decide +kernel, rfl⟩
theorem d_X6_pop_19 : gd cX6_pop 19 (.aload_n 0) 1 20 := ⟨by decide +kernel, rfl⟩
theorem d_X6_pop_20 : gd cX6_pop 20 (.getfield 27) 3 23 := ⟨by decide +kernel, rfl⟩
theorem d_X6_pop_23 : gd cX6_pop 23 (.aload_n 0) 1 24 := ⟨by decide +kernel, rfl⟩
theorem d_X6_pop_24 : gd cX6_pop 24 (.getfield 46) 3 27 := ⟨by decide +kernel, rfl⟩
theorem d_X6_pop_27 : gd cX6_pop 27 .iaload 1 28 := ⟨by decide +kernel, rfl⟩
theorem d_X6_pop_28 : gd cX6_pop 28 .ireturn 1 29 := ⟨by decide +kernel, rfl⟩
def D_X6_pop  (μ : gs_M) : Option (Int32 × gs_M) :=
  if 0 < (gI μ 16 5) then (lt1 (sI μ 16 5 ((gI μ 16 5) - (1 : Int32))) (fun u2 => ck (inb (gI u2 16 5) 160) (some (gI u2 24 (Int32.toNatClampNeg (gI u2 16 5)), u2)))) else (some ((0 : Int32), μ))
section S_X6_pop
variable {p : Program} {l : Launch} {e : Env} {R : Room} {s : State} {m : MethodId} {args : Array Value} {below : List Frame} {meth : Method} {c : Code} {ad : Nat → Nat} {g : va_G} {tyc : Nat → ClassId}
set_option maxRecDepth 20000 in
theorem C_X6_pop   {μ : gs_M} {r : Int32} {μ2 : gs_M}  (hD : D_X6_pop  μ = some (r, μ2)) : CALL yX6_pop cX6_pop 1 (some .int) 0 [.ref 16] μ (some (.int r)) μ2 := by
  unfold D_X6_pop at hD
  refine gs_enter mf_X6_pop (Nat.le_of_ble_eq_true rfl) (ls := [.ref 16]) rfl (fun p l e R s m args below meth c ad g tyc hK => ?_)
  have hK : KC p R s m args meth c ad g tyc RX6 cX6_pop 1 (some .int) 0 := hK
  refine r_aload_n hK d_X6_pop_0 rfl rfl ?_
  refine r_getI hK d_X6_pop_1 fl_RX6_46_5 rfl kd_16 ?_
  refine r_if_gt (tgt := 9) hK d_X6_pop_4 (by decide) (fun h1 => ?_) (fun h1 => ?_)
  · have hD := if_t hD h1
    refine r_aload_n hK d_X6_pop_9 rfl rfl ?_
    refine r_dup hK d_X6_pop_10 rfl ?_
    refine r_getI hK d_X6_pop_11 fl_RX6_46_5 rfl kd_16 ?_
    refine r_iconst hK d_X6_pop_14 ci_1 ?_
    refine r_isub hK d_X6_pop_15 ?_
    refine r_putI hK d_X6_pop_16 fl_RX6_46_5 rfl rfl kd_16 ?_
    refine r_ltm hD (fun u2 hD => ?_)
    refine r_aload_n hK d_X6_pop_19 rfl rfl ?_
    refine r_getR hK d_X6_pop_20 fl_RX6_27_5 rfl kd_16 ?_
    refine r_ref (b := 24) R0_16_4 ?_
    refine r_aload_n hK d_X6_pop_23 rfl rfl ?_
    refine r_getI hK d_X6_pop_24 fl_RX6_46_5 rfl kd_16 ?_
    obtain ⟨h3, hD⟩ := ck_e hD
    refine r_iald hK d_X6_pop_27 kd_24 ln_24 (inb_in h3) ?_
    cases hD
    exact r_iret hK d_X6_pop_28
  · have hD := if_f hD h1
    refine r_iconst hK d_X6_pop_7 ci_0 ?_
    cases hD
    exact r_iret hK d_X6_pop_8
end S_X6_pop
theorem d_X6_joined_0 : gd cX6_joined 0 (.iload_n 0) 1 1 := ⟨by decide +kernel, rfl⟩
theorem d_X6_joined_1 : gd cX6_joined 1 (.tableswitch 217 38 62 #[213, 217, 217, 217, 133, 115, 217, 124, 217, 168, 217, 217, 217, 217, 217, 217, 217, 217, 217, 217, 217, 217, 191, 180, 202]) 115 116 := ⟨by decide +kernel, rfl⟩
theorem d_X6_joined_116 : gd cX6_joined 116 (.iload_n 1) 1 117 := ⟨by decide +kernel, rfl⟩
theorem d_X6_joined_117 : gd cX6_joined 117 (.iload_n 2) 1 118 := ⟨by decide +kernel, rfl⟩
theorem d_X6_joined_118 : gd cX6_joined 118 .iadd 1 119 := ⟨by decide +kernel, rfl⟩
theorem d_X6_joined_119 : gd cX6_joined 119 (.ldc 68) 2 121 := ⟨by decide +kernel, rfl⟩
theorem d_X6_joined_121 : gd cX6_joined 121 (.invokestatic 69) 3 124 := ⟨by decide +kernel, rfl⟩
theorem d_X6_joined_124 : gd cX6_joined 124 .ireturn 1 125 := ⟨by decide +kernel, rfl⟩
theorem d_X6_joined_125 : gd cX6_joined 125 (.iload_n 1) 1 126 := ⟨by decide +kernel, rfl⟩
theorem d_X6_joined_126 : gd cX6_joined 126 (.iload_n 2) 1 127 := ⟨by decide +kernel, rfl⟩
theorem d_X6_joined_127 : gd cX6_joined 127 .isub 1 128 := ⟨by decide +kernel, rfl⟩
theorem d_X6_joined_128 : gd cX6_joined 128 (.ldc 68) 2 130 := ⟨by decide +kernel, rfl⟩
theorem d_X6_joined_130 : gd cX6_joined 130 (.invokestatic 69) 3 133 := ⟨by decide +kernel, rfl⟩
theorem d_X6_joined_133 : gd cX6_joined 133 .ireturn 1 134 := ⟨by decide +kernel, rfl⟩
theorem d_X6_joined_134 : gd cX6_joined 134 (.iload_n 1) 1 135 := ⟨by decide +kernel, rfl⟩
theorem d_X6_joined_135 : gd cX6_joined 135 .i2l 1 136 := ⟨by decide +kernel, rfl⟩
theorem d_X6_joined_136 : gd cX6_joined 136 (.iload_n 2) 1 137 := ⟨by decide +kernel, rfl⟩
theorem d_X6_joined_137 : gd cX6_joined 137 .i2l 1 138 := ⟨by decide +kernel, rfl⟩
theorem d_X6_joined_138 : gd cX6_joined 138 .lmul 1 139 := ⟨by decide +kernel, rfl⟩
theorem d_X6_joined_139 : gd cX6_joined 139 (.lstore_n 3) 1 140 := ⟨by decide +kernel, rfl⟩
theorem d_X6_joined_140 : gd cX6_joined 140 (.lload_n 3) 1 141 := ⟨by decide +kernel, rfl⟩
theorem d_X6_joined_141 : gd cX6_joined 141 (.ldc2_w 73) 3 144 := ⟨by decide +kernel, rfl⟩
theorem d_X6_joined_144 : gd cX6_joined 144 .lcmp 1 145 := ⟨by decide +kernel, rfl⟩
theorem d_X6_joined_145 : gd cX6_joined 145 (.ifCond .le 8) 3 148 := ⟨by decide +kernel, rfl⟩
theorem d_X6_joined_148 : gd cX6_joined 148 (.ldc 68) 2 150 := ⟨by decide +kernel, rfl⟩
theorem d_X6_joined_150 : gd cX6_joined 150 (.goto 18) 3 153 := ⟨by decide +kernel, rfl⟩
theorem d_X6_joined_153 : gd cX6_joined 153 (.lload_n 3) 1 154 := ⟨by decide +kernel, rfl⟩
theorem d_X6_joined_154 : gd cX6_joined 154 (.ldc2_w 75) 3 157 := ⟨by decide +kernel, rfl⟩
theorem d_X6_joined_157 : gd cX6_joined 157 .lcmp 1 158 := ⟨by decide +kernel, rfl⟩
theorem d_X6_joined_158 : gd cX6_joined 158 (.ifCond .ge 8) 3 161 := ⟨by decide +kernel, rfl⟩
theorem d_X6_joined_161 : gd cX6_joined 161 (.ldc 77) 2 163 := ⟨by decide +kernel, rfl⟩
theorem d_X6_joined_163 : gd cX6_joined 163 (.goto 5) 3 166 := ⟨by decide +kernel, rfl⟩
theorem d_X6_joined_166 : gd cX6_joined 166 (.lload_n 3) 1 167 := ⟨by decide +kernel, rfl⟩
theorem d_X6_joined_167 : gd cX6_joined 167 .l2i 1 168 := ⟨by decide +kernel, rfl⟩
theorem d_X6_joined_168 : gd cX6_joined 168 .ireturn 1 169 := ⟨by decide +kernel, rfl⟩
theorem d_X6_joined_169 : gd cX6_joined 169 (.iload_n 2) 1 170 := ⟨by decide +kernel, rfl⟩
theorem d_X6_joined_170 : gd cX6_joined 170 (.ifCond .ne 7) 3 173 := ⟨by decide +kernel, rfl⟩
theorem d_X6_joined_173 : gd cX6_joined 173 (.iconst 0) 1 174 := ⟨by decide +kernel, rfl⟩
theorem d_X6_joined_174 : gd cX6_joined 174 (.goto 6) 3 177 := ⟨by decide +kernel, rfl⟩
theorem d_X6_joined_177 : gd cX6_joined 177 (.iload_n 1) 1 178 := ⟨by decide +kernel, rfl⟩
theorem d_X6_joined_178 : gd cX6_joined 178 (.iload_n 2) 1 179 := ⟨by decide +kernel, rfl⟩
theorem d_X6_joined_179 : gd cX6_joined 179 .idiv 1 180 := ⟨by decide +kernel, rfl⟩
theorem d_X6_joined_180 : gd cX6_joined 180 .ireturn 1 181 := ⟨by decide +kernel, rfl⟩
theorem d_X6_joined_181 : gd cX6_joined 181 (.iload_n 1) 1 182 := ⟨by decide +kernel, rfl⟩
theorem d_X6_joined_182 : gd cX6_joined 182 (.iload_n 2) 1 183 := ⟨by decide +kernel, rfl⟩
theorem d_X6_joined_183 : gd cX6_joined 183 (.if_icmp .ne 7) 3 186 := ⟨by decide +kernel, rfl⟩
theorem d_X6_joined_186 : gd cX6_joined 186 (.iconst 1) 1 187 := ⟨by decide +kernel, rfl⟩
theorem d_X6_joined_187 : gd cX6_joined 187 (.goto 4) 3 190 := ⟨by decide +kernel, rfl⟩
theorem d_X6_joined_190 : gd cX6_joined 190 (.iconst 0) 1 191 := ⟨by decide +kernel, rfl⟩
theorem d_X6_joined_191 : gd cX6_joined 191 .ireturn 1 192 := ⟨by decide +kernel, rfl⟩
theorem d_X6_joined_192 : gd cX6_joined 192 (.iload_n 1) 1 193 := ⟨by decide +kernel, rfl⟩
theorem d_X6_joined_193 : gd cX6_joined 193 (.iload_n 2) 1 194 := ⟨by decide +kernel, rfl⟩
theorem d_X6_joined_194 : gd cX6_joined 194 (.if_icmp .ge 7) 3 197 := ⟨by decide +kernel, rfl⟩
theorem d_X6_joined_197 : gd cX6_joined 197 (.iconst 1) 1 198 := ⟨by decide +kernel, rfl⟩
theorem d_X6_joined_198 : gd cX6_joined 198 (.goto 4) 3 201 := ⟨by decide +kernel, rfl⟩
theorem d_X6_joined_201 : gd cX6_joined 201 (.iconst 0) 1 202 := ⟨by decide +kernel, rfl⟩
theorem d_X6_joined_202 : gd cX6_joined 202 .ireturn 1 203 := ⟨by decide +kernel, rfl⟩
theorem d_X6_joined_203 : gd cX6_joined 203 (.iload_n 1) 1 204 := ⟨by decide +kernel, rfl⟩
theorem d_X6_joined_204 : gd cX6_joined 204 (.iload_n 2) 1 205 := ⟨by decide +kernel, rfl⟩
theorem d_X6_joined_205 : gd cX6_joined 205 (.if_icmp .le 7) 3 208 := ⟨by decide +kernel, rfl⟩
theorem d_X6_joined_208 : gd cX6_joined 208 (.iconst 1) 1 209 := ⟨by decide +kernel, rfl⟩
theorem d_X6_joined_209 : gd cX6_joined 209 (.goto 4) 3 212 := ⟨by decide +kernel, rfl⟩
theorem d_X6_joined_212 : gd cX6_joined 212 (.iconst 0) 1 213 := ⟨by decide +kernel, rfl⟩
theorem d_X6_joined_213 : gd cX6_joined 213 .ireturn 1 214 := ⟨by decide +kernel, rfl⟩
theorem d_X6_joined_214 : gd cX6_joined 214 (.iload_n 1) 1 215 := ⟨by decide +kernel, rfl⟩
theorem d_X6_joined_215 : gd cX6_joined 215 (.iload_n 2) 1 216 := ⟨by decide +kernel, rfl⟩
theorem d_X6_joined_216 : gd cX6_joined 216 .iand 1 217 := ⟨by decide +kernel, rfl⟩
theorem d_X6_joined_217 : gd cX6_joined 217 .ireturn 1 218 := ⟨by decide +kernel, rfl⟩
theorem d_X6_joined_218 : gd cX6_joined 218 (.iload_n 1) 1 219 := ⟨by decide +kernel, rfl⟩
theorem d_X6_joined_219 : gd cX6_joined 219 (.iload_n 2) 1 220 := ⟨by decide +kernel, rfl⟩
theorem d_X6_joined_220 : gd cX6_joined 220 .ior 1 221 := ⟨by decide +kernel, rfl⟩
theorem d_X6_joined_221 : gd cX6_joined 221 .ireturn 1 222 := ⟨by decide +kernel, rfl⟩
def D_X6_joined (x0 : Int32) (x1 : Int32) (x2 : Int32) (μ : gs_M) : Option (Int32 × gs_M) :=
  lt1 x0 (fun v1 => if v1 = (38 : Int32) then (some (x1 &&& x2, μ)) else (if v1 = (42 : Int32) then (lt1 ((Int32.toInt64 x1) * (Int32.toInt64 x2)) (fun v4 => if (lg_cmp v4 (1000000 : Int64)) ≤ 0 then (if 0 ≤ (lg_cmp v4 (-1000000 : Int64)) then (some (Int64.toInt32 v4, μ)) else (some ((-1000000 : Int32), μ))) else (some ((1000000 : Int32), μ)))) else (if v1 = (43 : Int32) then (bd (D_X11_held (x1 + x2) (1000000 : Int32) μ) (fun v10 u9 => some (v10, u9))) else (if v1 = (45 : Int32) then (bd (D_X11_held (x1 - x2) (1000000 : Int32) μ) (fun v14 u13 => some (v14, u13))) else (if v1 = (47 : Int32) then (if x2 = 0 then (some ((0 : Int32), μ)) else (ck (nzi x2) (some (x1 / x2, μ)))) else (if v1 = (60 : Int32) then (if x2 ≤ x1 then (some ((0 : Int32), μ)) else (some ((1 : Int32), μ))) else (if v1 = (61 : Int32) then (if x1 = x2 then (some ((1 : Int32), μ)) else (some ((0 : Int32), μ))) else (if v1 = (62 : Int32) then (if x1 ≤ x2 then (some ((0 : Int32), μ)) else (some ((1 : Int32), μ))) else (some (x1 ||| x2, μ))))))))))
section S_X6_joined
variable {p : Program} {l : Launch} {e : Env} {R : Room} {s : State} {m : MethodId} {args : Array Value} {below : List Frame} {meth : Method} {c : Code} {ad : Nat → Nat} {g : va_G} {tyc : Nat → ClassId}
set_option maxRecDepth 20000 in
theorem C_X6_joined  {x0 : Int32} {x1 : Int32} {x2 : Int32} {μ : gs_M} {r : Int32} {μ2 : gs_M}  (hD : D_X6_joined x0 x1 x2 μ = some (r, μ2)) : CALL yX6_joined cX6_joined 5 (some .int) 1 [.int x0, .int x1, .int x2] μ (some (.int r)) μ2 := by
  unfold D_X6_joined at hD
  refine gs_enter mf_X6_joined (Nat.le_of_ble_eq_true rfl) (ls := [.int x0, .int x1, .int x2, gs_J, gs_J]) rfl (fun p l e R s m args below meth c ad g tyc hK => ?_)
  have hK : KC p R s m args meth c ad g tyc RX6 cX6_joined 5 (some .int) 1 := hK
  refine r_iload_n hK d_X6_joined_0 rfl rfl ?_
  refine r_lti hD (fun v1 hD => ?_)
  by_cases h2 : v1 = (38 : Int32)
  · subst h2
    have hD := if_t hD rfl
    refine r_tableIn (off := 213) (tgt := 214) hK d_X6_joined_1 (by decide) (by decide) (by decide) (by decide) ?_
    refine r_iload_n hK d_X6_joined_214 rfl rfl ?_
    refine r_iload_n hK d_X6_joined_215 rfl rfl ?_
    refine r_iand hK d_X6_joined_216 ?_
    cases hD
    exact r_iret hK d_X6_joined_217
  have hD := if_f hD h2
  by_cases h3 : v1 = (42 : Int32)
  · subst h3
    have hD := if_t hD rfl
    refine r_tableIn (off := 133) (tgt := 134) hK d_X6_joined_1 (by decide) (by decide) (by decide) (by decide) ?_
    refine r_iload_n hK d_X6_joined_134 rfl rfl ?_
    refine r_i2l hK d_X6_joined_135 ?_
    refine r_iload_n hK d_X6_joined_136 rfl rfl ?_
    refine r_i2l hK d_X6_joined_137 ?_
    refine r_lmul hK d_X6_joined_138 ?_
    refine r_ltl hD (fun v4 hD => ?_)
    refine r_lstore_n hK d_X6_joined_139 rfl (by decide) (ls2 := [.int x0, .int x1, .int x2, .long v4, gs_J]) rfl ?_
    refine r_lload_n hK d_X6_joined_140 rfl rfl ?_
    refine r_ldc2 hK d_X6_joined_141 kl_RX6_73 ?_
    refine r_lcmp hK d_X6_joined_144 ?_
    refine r_if_le (tgt := 153) hK d_X6_joined_145 (by decide) (fun h5 => ?_) (fun h5 => ?_)
    · have hD := if_t hD h5
      refine r_lload_n hK d_X6_joined_153 rfl rfl ?_
      refine r_ldc2 hK d_X6_joined_154 kl_RX6_75 ?_
      refine r_lcmp hK d_X6_joined_157 ?_
      refine r_if_ge (tgt := 166) hK d_X6_joined_158 (by decide) (fun h6 => ?_) (fun h6 => ?_)
      · have hD := if_t hD h6
        refine r_lload_n hK d_X6_joined_166 rfl rfl ?_
        refine r_l2i hK d_X6_joined_167 ?_
        cases hD
        exact r_iret hK d_X6_joined_168
      · have hD := if_f hD h6
        refine r_ldc hK d_X6_joined_161 kc_RX6_77 ?_
        refine r_goto (tgt := 168) hK d_X6_joined_163 (by decide) ?_
        cases hD
        exact r_iret hK d_X6_joined_168
    · have hD := if_f hD h5
      refine r_ldc hK d_X6_joined_148 kc_RX6_68 ?_
      refine r_goto (tgt := 168) hK d_X6_joined_150 (by decide) ?_
      cases hD
      exact r_iret hK d_X6_joined_168
  have hD := if_f hD h3
  by_cases h7 : v1 = (43 : Int32)
  · subst h7
    have hD := if_t hD rfl
    refine r_tableIn (off := 115) (tgt := 116) hK d_X6_joined_1 (by decide) (by decide) (by decide) (by decide) ?_
    refine r_iload_n hK d_X6_joined_116 rfl rfl ?_
    refine r_iload_n hK d_X6_joined_117 rfl rfl ?_
    refine r_iadd hK d_X6_joined_118 ?_
    refine r_ldc hK d_X6_joined_119 kc_RX6_68 ?_
    obtain ⟨v10, u9, e8, hD⟩ := bd_e hD
    refine r_callSN (As := [.int (x1 + x2), .int (1000000 : Int32)]) (st := []) (stk2 := [.int v10]) hK (C_X11_held  e8) d_X6_joined_121 mf_X11_held mn_RX6_69 ss_X11_held rfl (Nat.le_of_ble_eq_true rfl) (by decide) ⟨Nat.zero_le _, Nat.zero_le _⟩ rfl rfl ?_
    cases hD
    exact r_iret hK d_X6_joined_124
  have hD := if_f hD h7
  by_cases h11 : v1 = (45 : Int32)
  · subst h11
    have hD := if_t hD rfl
    refine r_tableIn (off := 124) (tgt := 125) hK d_X6_joined_1 (by decide) (by decide) (by decide) (by decide) ?_
    refine r_iload_n hK d_X6_joined_125 rfl rfl ?_
    refine r_iload_n hK d_X6_joined_126 rfl rfl ?_
    refine r_isub hK d_X6_joined_127 ?_
    refine r_ldc hK d_X6_joined_128 kc_RX6_68 ?_
    obtain ⟨v14, u13, e12, hD⟩ := bd_e hD
    refine r_callSN (As := [.int (x1 - x2), .int (1000000 : Int32)]) (st := []) (stk2 := [.int v14]) hK (C_X11_held  e12) d_X6_joined_130 mf_X11_held mn_RX6_69 ss_X11_held rfl (Nat.le_of_ble_eq_true rfl) (by decide) ⟨Nat.zero_le _, Nat.zero_le _⟩ rfl rfl ?_
    cases hD
    exact r_iret hK d_X6_joined_133
  have hD := if_f hD h11
  by_cases h15 : v1 = (47 : Int32)
  · subst h15
    have hD := if_t hD rfl
    refine r_tableIn (off := 168) (tgt := 169) hK d_X6_joined_1 (by decide) (by decide) (by decide) (by decide) ?_
    refine r_iload_n hK d_X6_joined_169 rfl rfl ?_
    refine r_if_ne (tgt := 177) hK d_X6_joined_170 (by decide) (fun h16 => ?_) (fun h16 => ?_)
    · have hD := if_f hD h16
      refine r_iload_n hK d_X6_joined_177 rfl rfl ?_
      refine r_iload_n hK d_X6_joined_178 rfl rfl ?_
      obtain ⟨h17, hD⟩ := ck_e hD
      refine r_idiv hK d_X6_joined_179 (nzi_e h17) ?_
      cases hD
      exact r_iret hK d_X6_joined_180
    · have hD := if_t hD h16
      refine r_iconst hK d_X6_joined_173 ci_0 ?_
      refine r_goto (tgt := 180) hK d_X6_joined_174 (by decide) ?_
      cases hD
      exact r_iret hK d_X6_joined_180
  have hD := if_f hD h15
  by_cases h18 : v1 = (60 : Int32)
  · subst h18
    have hD := if_t hD rfl
    refine r_tableIn (off := 191) (tgt := 192) hK d_X6_joined_1 (by decide) (by decide) (by decide) (by decide) ?_
    refine r_iload_n hK d_X6_joined_192 rfl rfl ?_
    refine r_iload_n hK d_X6_joined_193 rfl rfl ?_
    refine r_icmp_ge (tgt := 201) hK d_X6_joined_194 (by decide) (fun h19 => ?_) (fun h19 => ?_)
    · have hD := if_t hD h19
      refine r_iconst hK d_X6_joined_201 ci_0 ?_
      cases hD
      exact r_iret hK d_X6_joined_202
    · have hD := if_f hD h19
      refine r_iconst hK d_X6_joined_197 ci_1 ?_
      refine r_goto (tgt := 202) hK d_X6_joined_198 (by decide) ?_
      cases hD
      exact r_iret hK d_X6_joined_202
  have hD := if_f hD h18
  by_cases h20 : v1 = (61 : Int32)
  · subst h20
    have hD := if_t hD rfl
    refine r_tableIn (off := 180) (tgt := 181) hK d_X6_joined_1 (by decide) (by decide) (by decide) (by decide) ?_
    refine r_iload_n hK d_X6_joined_181 rfl rfl ?_
    refine r_iload_n hK d_X6_joined_182 rfl rfl ?_
    refine r_icmp_ne (tgt := 190) hK d_X6_joined_183 (by decide) (fun h21 => ?_) (fun h21 => ?_)
    · have hD := if_f hD h21
      refine r_iconst hK d_X6_joined_190 ci_0 ?_
      cases hD
      exact r_iret hK d_X6_joined_191
    · have hD := if_t hD h21
      refine r_iconst hK d_X6_joined_186 ci_1 ?_
      refine r_goto (tgt := 191) hK d_X6_joined_187 (by decide) ?_
      cases hD
      exact r_iret hK d_X6_joined_191
  have hD := if_f hD h20
  by_cases h22 : v1 = (62 : Int32)
  · subst h22
    have hD := if_t hD rfl
    refine r_tableIn (off := 202) (tgt := 203) hK d_X6_joined_1 (by decide) (by decide) (by decide) (by decide) ?_
    refine r_iload_n hK d_X6_joined_203 rfl rfl ?_
    refine r_iload_n hK d_X6_joined_204 rfl rfl ?_
    refine r_icmp_le (tgt := 212) hK d_X6_joined_205 (by decide) (fun h23 => ?_) (fun h23 => ?_)
    · have hD := if_t hD h23
      refine r_iconst hK d_X6_joined_212 ci_0 ?_
      cases hD
      exact r_iret hK d_X6_joined_213
    · have hD := if_f hD h23
      refine r_iconst hK d_X6_joined_208 ci_1 ?_
      refine r_goto (tgt := 213) hK d_X6_joined_209 (by decide) ?_
      cases hD
      exact r_iret hK d_X6_joined_213
  have hD := if_f hD h22
  by_cases h24 : v1 = (39 : Int32)
  · subst h24
    refine r_tableIn (off := 217) (tgt := 218) hK d_X6_joined_1 (by decide) (by decide) (by decide) (by decide) ?_
    refine r_iload_n hK d_X6_joined_218 rfl rfl ?_
    refine r_iload_n hK d_X6_joined_219 rfl rfl ?_
    refine r_ior hK d_X6_joined_220 ?_
    cases hD
    exact r_iret hK d_X6_joined_221
  by_cases h25 : v1 = (40 : Int32)
  · subst h25
    refine r_tableIn (off := 217) (tgt := 218) hK d_X6_joined_1 (by decide) (by decide) (by decide) (by decide) ?_
    refine r_iload_n hK d_X6_joined_218 rfl rfl ?_
    refine r_iload_n hK d_X6_joined_219 rfl rfl ?_
    refine r_ior hK d_X6_joined_220 ?_
    cases hD
    exact r_iret hK d_X6_joined_221
  by_cases h26 : v1 = (41 : Int32)
  · subst h26
    refine r_tableIn (off := 217) (tgt := 218) hK d_X6_joined_1 (by decide) (by decide) (by decide) (by decide) ?_
    refine r_iload_n hK d_X6_joined_218 rfl rfl ?_
    refine r_iload_n hK d_X6_joined_219 rfl rfl ?_
    refine r_ior hK d_X6_joined_220 ?_
    cases hD
    exact r_iret hK d_X6_joined_221
  by_cases h27 : v1 = (44 : Int32)
  · subst h27
    refine r_tableIn (off := 217) (tgt := 218) hK d_X6_joined_1 (by decide) (by decide) (by decide) (by decide) ?_
    refine r_iload_n hK d_X6_joined_218 rfl rfl ?_
    refine r_iload_n hK d_X6_joined_219 rfl rfl ?_
    refine r_ior hK d_X6_joined_220 ?_
    cases hD
    exact r_iret hK d_X6_joined_221
  by_cases h28 : v1 = (46 : Int32)
  · subst h28
    refine r_tableIn (off := 217) (tgt := 218) hK d_X6_joined_1 (by decide) (by decide) (by decide) (by decide) ?_
    refine r_iload_n hK d_X6_joined_218 rfl rfl ?_
    refine r_iload_n hK d_X6_joined_219 rfl rfl ?_
    refine r_ior hK d_X6_joined_220 ?_
    cases hD
    exact r_iret hK d_X6_joined_221
  by_cases h29 : v1 = (48 : Int32)
  · subst h29
    refine r_tableIn (off := 217) (tgt := 218) hK d_X6_joined_1 (by decide) (by decide) (by decide) (by decide) ?_
    refine r_iload_n hK d_X6_joined_218 rfl rfl ?_
    refine r_iload_n hK d_X6_joined_219 rfl rfl ?_
    refine r_ior hK d_X6_joined_220 ?_
    cases hD
    exact r_iret hK d_X6_joined_221
  by_cases h30 : v1 = (49 : Int32)
  · subst h30
    refine r_tableIn (off := 217) (tgt := 218) hK d_X6_joined_1 (by decide) (by decide) (by decide) (by decide) ?_
    refine r_iload_n hK d_X6_joined_218 rfl rfl ?_
    refine r_iload_n hK d_X6_joined_219 rfl rfl ?_
    refine r_ior hK d_X6_joined_220 ?_
    cases hD
    exact r_iret hK d_X6_joined_221
  by_cases h31 : v1 = (50 : Int32)
  · subst h31
    refine r_tableIn (off := 217) (tgt := 218) hK d_X6_joined_1 (by decide) (by decide) (by decide) (by decide) ?_
    refine r_iload_n hK d_X6_joined_218 rfl rfl ?_
    refine r_iload_n hK d_X6_joined_219 rfl rfl ?_
    refine r_ior hK d_X6_joined_220 ?_
    cases hD
    exact r_iret hK d_X6_joined_221
  by_cases h32 : v1 = (51 : Int32)
  · subst h32
    refine r_tableIn (off := 217) (tgt := 218) hK d_X6_joined_1 (by decide) (by decide) (by decide) (by decide) ?_
    refine r_iload_n hK d_X6_joined_218 rfl rfl ?_
    refine r_iload_n hK d_X6_joined_219 rfl rfl ?_
    refine r_ior hK d_X6_joined_220 ?_
    cases hD
    exact r_iret hK d_X6_joined_221
  by_cases h33 : v1 = (52 : Int32)
  · subst h33
    refine r_tableIn (off := 217) (tgt := 218) hK d_X6_joined_1 (by decide) (by decide) (by decide) (by decide) ?_
    refine r_iload_n hK d_X6_joined_218 rfl rfl ?_
    refine r_iload_n hK d_X6_joined_219 rfl rfl ?_
    refine r_ior hK d_X6_joined_220 ?_
    cases hD
    exact r_iret hK d_X6_joined_221
  by_cases h34 : v1 = (53 : Int32)
  · subst h34
    refine r_tableIn (off := 217) (tgt := 218) hK d_X6_joined_1 (by decide) (by decide) (by decide) (by decide) ?_
    refine r_iload_n hK d_X6_joined_218 rfl rfl ?_
    refine r_iload_n hK d_X6_joined_219 rfl rfl ?_
    refine r_ior hK d_X6_joined_220 ?_
    cases hD
    exact r_iret hK d_X6_joined_221
  by_cases h35 : v1 = (54 : Int32)
  · subst h35
    refine r_tableIn (off := 217) (tgt := 218) hK d_X6_joined_1 (by decide) (by decide) (by decide) (by decide) ?_
    refine r_iload_n hK d_X6_joined_218 rfl rfl ?_
    refine r_iload_n hK d_X6_joined_219 rfl rfl ?_
    refine r_ior hK d_X6_joined_220 ?_
    cases hD
    exact r_iret hK d_X6_joined_221
  by_cases h36 : v1 = (55 : Int32)
  · subst h36
    refine r_tableIn (off := 217) (tgt := 218) hK d_X6_joined_1 (by decide) (by decide) (by decide) (by decide) ?_
    refine r_iload_n hK d_X6_joined_218 rfl rfl ?_
    refine r_iload_n hK d_X6_joined_219 rfl rfl ?_
    refine r_ior hK d_X6_joined_220 ?_
    cases hD
    exact r_iret hK d_X6_joined_221
  by_cases h37 : v1 = (56 : Int32)
  · subst h37
    refine r_tableIn (off := 217) (tgt := 218) hK d_X6_joined_1 (by decide) (by decide) (by decide) (by decide) ?_
    refine r_iload_n hK d_X6_joined_218 rfl rfl ?_
    refine r_iload_n hK d_X6_joined_219 rfl rfl ?_
    refine r_ior hK d_X6_joined_220 ?_
    cases hD
    exact r_iret hK d_X6_joined_221
  by_cases h38 : v1 = (57 : Int32)
  · subst h38
    refine r_tableIn (off := 217) (tgt := 218) hK d_X6_joined_1 (by decide) (by decide) (by decide) (by decide) ?_
    refine r_iload_n hK d_X6_joined_218 rfl rfl ?_
    refine r_iload_n hK d_X6_joined_219 rfl rfl ?_
    refine r_ior hK d_X6_joined_220 ?_
    cases hD
    exact r_iret hK d_X6_joined_221
  by_cases h39 : v1 = (58 : Int32)
  · subst h39
    refine r_tableIn (off := 217) (tgt := 218) hK d_X6_joined_1 (by decide) (by decide) (by decide) (by decide) ?_
    refine r_iload_n hK d_X6_joined_218 rfl rfl ?_
    refine r_iload_n hK d_X6_joined_219 rfl rfl ?_
    refine r_ior hK d_X6_joined_220 ?_
    cases hD
    exact r_iret hK d_X6_joined_221
  by_cases h40 : v1 = (59 : Int32)
  · subst h40
    refine r_tableIn (off := 217) (tgt := 218) hK d_X6_joined_1 (by decide) (by decide) (by decide) (by decide) ?_
    refine r_iload_n hK d_X6_joined_218 rfl rfl ?_
    refine r_iload_n hK d_X6_joined_219 rfl rfl ?_
    refine r_ior hK d_X6_joined_220 ?_
    cases hD
    exact r_iret hK d_X6_joined_221
  refine r_tableOut (tgt := 218) hK d_X6_joined_1 (sw_out (fun k q1 q2 => by rcases (show k = 38 ∨ k = 39 ∨ k = 40 ∨ k = 41 ∨ k = 42 ∨ k = 43 ∨ k = 44 ∨ k = 45 ∨ k = 46 ∨ k = 47 ∨ k = 48 ∨ k = 49 ∨ k = 50 ∨ k = 51 ∨ k = 52 ∨ k = 53 ∨ k = 54 ∨ k = 55 ∨ k = 56 ∨ k = 57 ∨ k = 58 ∨ k = 59 ∨ k = 60 ∨ k = 61 ∨ k = 62 by omega) with rfl | rfl | rfl | rfl | rfl | rfl | rfl | rfl | rfl | rfl | rfl | rfl | rfl | rfl | rfl | rfl | rfl | rfl | rfl | rfl | rfl | rfl | rfl | rfl | rfl <;> assumption)) (by decide) ?_
  refine r_iload_n hK d_X6_joined_218 rfl rfl ?_
  refine r_iload_n hK d_X6_joined_219 rfl rfl ?_
  refine r_ior hK d_X6_joined_220 ?_
  cases hD
  exact r_iret hK d_X6_joined_221
end S_X6_joined
theorem d_X6_push_0 : gd cX6_push 0 (.aload_n 0) 1 1 := ⟨by decide +kernel, rfl⟩
theorem d_X6_push_1 : gd cX6_push 1 (.getfield 46) 3 4 := ⟨by decide +kernel, rfl⟩
theorem d_X6_push_4 : gd cX6_push 4 (.sipush 160) 3 7 := ⟨by decide +kernel, rfl⟩
theorem d_X6_push_7 : gd cX6_push 7 (.if_icmp .ge 23) 3 10 := ⟨by decide +kernel, rfl⟩
theorem d_X6_push_10 : gd cX6_push 10 (.aload_n 0) 1 11 := ⟨by decide +kernel, rfl⟩
theorem d_X6_push_11 : gd cX6_push 11 (.getfield 27) 3 14 := ⟨by decide +kernel, rfl⟩
theorem d_X6_push_14 : gd cX6_push 14 (.aload_n 0) 1 15 := ⟨by decide +kernel, rfl⟩
theorem d_X6_push_15 : gd cX6_push 15 (.getfield 46) 3 18 := ⟨by decide +kernel, rfl⟩
theorem d_X6_push_18 : gd cX6_push 18 (.iload_n 1) 1 19 := ⟨by decide +kernel, rfl⟩
theorem d_X6_push_19 : gd cX6_push 19 .iastore 1 20 := ⟨by decide +kernel, rfl⟩
theorem d_X6_push_20 : gd cX6_push 20 (.aload_n 0) 1 21 := ⟨by decide +kernel, rfl⟩
theorem d_X6_push_21 : gd cX6_push 21 .dup 1 22 := ⟨by decide +kernel, rfl⟩
theorem d_X6_push_22 : gd cX6_push 22 (.getfield 46) 3 25 := ⟨by decide +kernel, rfl⟩
theorem d_X6_push_25 : gd cX6_push 25 (.iconst 1) 1 26 := ⟨by decide +kernel, rfl⟩
theorem d_X6_push_26 : gd cX6_push 26 .iadd 1 27 := ⟨by decide +kernel, rfl⟩
theorem d_X6_push_27 : gd cX6_push 27 (.putfield 46) 3 30 := ⟨by decide +kernel, rfl⟩
theorem d_X6_push_30 : gd cX6_push 30 .return_ 1 31 := ⟨by decide +kernel, rfl⟩
def D_X6_push (x1 : Int32) (μ : gs_M) : Option (gs_M) :=
  if (160 : Int32) ≤ (gI μ 16 5) then (some μ) else (ck (inb (gI μ 16 5) 160) (lt1 (sI μ 24 (Int32.toNatClampNeg (gI μ 16 5)) x1) (fun u3 => lt1 (sI u3 16 5 ((gI u3 16 5) + (1 : Int32))) (fun u4 => some u4))))
section S_X6_push
variable {p : Program} {l : Launch} {e : Env} {R : Room} {s : State} {m : MethodId} {args : Array Value} {below : List Frame} {meth : Method} {c : Code} {ad : Nat → Nat} {g : va_G} {tyc : Nat → ClassId}
set_option maxRecDepth 20000 in
theorem C_X6_push  {x1 : Int32} {μ : gs_M} {μ2 : gs_M}  (hD : D_X6_push x1 μ = some μ2) : CALL yX6_push cX6_push 2 none 0 [.ref 16, .int x1] μ none μ2 := by
  unfold D_X6_push at hD
  refine gs_enter mf_X6_push (Nat.le_of_ble_eq_true rfl) (ls := [.ref 16, .int x1]) rfl (fun p l e R s m args below meth c ad g tyc hK => ?_)
  have hK : KC p R s m args meth c ad g tyc RX6 cX6_push 2 none 0 := hK
  refine r_aload_n hK d_X6_push_0 rfl rfl ?_
  refine r_getI hK d_X6_push_1 fl_RX6_46_5 rfl kd_16 ?_
  refine r_sipush hK d_X6_push_4 cs_160 ?_
  refine r_icmp_ge (tgt := 30) hK d_X6_push_7 (by decide) (fun h1 => ?_) (fun h1 => ?_)
  · have hD := if_t hD h1
    cases hD
    exact r_vret hK d_X6_push_30
  · have hD := if_f hD h1
    refine r_aload_n hK d_X6_push_10 rfl rfl ?_
    refine r_getR hK d_X6_push_11 fl_RX6_27_5 rfl kd_16 ?_
    refine r_ref (b := 24) R0_16_4 ?_
    refine r_aload_n hK d_X6_push_14 rfl rfl ?_
    refine r_getI hK d_X6_push_15 fl_RX6_46_5 rfl kd_16 ?_
    refine r_iload_n hK d_X6_push_18 rfl rfl ?_
    obtain ⟨h2, hD⟩ := ck_e hD
    refine r_iast hK d_X6_push_19 kd_24 ln_24 (inb_in h2) ?_
    refine r_ltm hD (fun u3 hD => ?_)
    refine r_aload_n hK d_X6_push_20 rfl rfl ?_
    refine r_dup hK d_X6_push_21 rfl ?_
    refine r_getI hK d_X6_push_22 fl_RX6_46_5 rfl kd_16 ?_
    refine r_iconst hK d_X6_push_25 ci_1 ?_
    refine r_iadd hK d_X6_push_26 ?_
    refine r_putI hK d_X6_push_27 fl_RX6_46_5 rfl rfl kd_16 ?_
    refine r_ltm hD (fun u4 hD => ?_)
    cases hD
    exact r_vret hK d_X6_push_30
end S_X6_push
theorem d_X6_step_0 : gd cX6_step 0 (.iload_n 1) 1 1 := ⟨by decide +kernel, rfl⟩
theorem d_X6_step_1 : gd cX6_step 1 .ineg 1 2 := ⟨by decide +kernel, rfl⟩
theorem d_X6_step_2 : gd cX6_step 2 (.invokestatic 57) 3 5 := ⟨by decide +kernel, rfl⟩
theorem d_X6_step_5 : gd cX6_step 5 (.istore_n 2) 1 6 := ⟨by decide +kernel, rfl⟩
theorem d_X6_step_6 : gd cX6_step 6 (.iload_n 1) 1 7 := ⟨by decide +kernel, rfl⟩
theorem d_X6_step_7 : gd cX6_step 7 (.ifCond .lt 11) 3 10 := ⟨by decide +kernel, rfl⟩
theorem d_X6_step_10 : gd cX6_step 10 (.aload_n 0) 1 11 := ⟨by decide +kernel, rfl⟩
theorem d_X6_step_11 : gd cX6_step 11 (.iload_n 1) 1 12 := ⟨by decide +kernel, rfl⟩
theorem d_X6_step_12 : gd cX6_step 12 (.invokevirtual 61) 3 15 := ⟨by decide +kernel, rfl⟩
theorem d_X6_step_15 : gd cX6_step 15 (.goto 69) 3 18 := ⟨by decide +kernel, rfl⟩
theorem d_X6_step_18 : gd cX6_step 18 (.iload_n 2) 1 19 := ⟨by decide +kernel, rfl⟩
theorem d_X6_step_19 : gd cX6_step 19 (.iconst (-1)) 1 20 := ⟨by decide +kernel, rfl⟩
theorem d_X6_step_20 : gd cX6_step 20 (.if_icmp .eq 16) 3 23 := ⟨by decide +kernel, rfl⟩
theorem d_X6_step_23 : gd cX6_step 23 (.aload_n 0) 1 24 := ⟨by decide +kernel, rfl⟩
theorem d_X6_step_24 : gd cX6_step 24 (.aload_n 0) 1 25 := ⟨by decide +kernel, rfl⟩
theorem d_X6_step_25 : gd cX6_step 25 (.getfield 13) 3 28 := ⟨by decide +kernel, rfl⟩
theorem d_X6_step_28 : gd cX6_step 28 (.iload_n 2) 1 29 := ⟨by decide +kernel, rfl⟩
theorem d_X6_step_29 : gd cX6_step 29 .iaload 1 30 := ⟨by decide +kernel, rfl⟩
theorem d_X6_step_30 : gd cX6_step 30 (.invokevirtual 61) 3 33 := ⟨by decide +kernel, rfl⟩
theorem d_X6_step_33 : gd cX6_step 33 (.goto 51) 3 36 := ⟨by decide +kernel, rfl⟩
theorem d_X6_step_36 : gd cX6_step 36 (.iload_n 1) 1 37 := ⟨by decide +kernel, rfl⟩
theorem d_X6_step_37 : gd cX6_step 37 (.bipush (-33)) 2 39 := ⟨by decide +kernel, rfl⟩
theorem d_X6_step_39 : gd cX6_step 39 (.if_icmp .ne 22) 3 42 := ⟨by decide +kernel, rfl⟩
theorem d_X6_step_42 : gd cX6_step 42 (.aload_n 0) 1 43 := ⟨by decide +kernel, rfl⟩
theorem d_X6_step_43 : gd cX6_step 43 (.aload_n 0) 1 44 := ⟨by decide +kernel, rfl⟩
theorem d_X6_step_44 : gd cX6_step 44 (.invokevirtual 49) 3 47 := ⟨by decide +kernel, rfl⟩
theorem d_X6_step_47 : gd cX6_step 47 (.ifCond .ne 7) 3 50 := ⟨by decide +kernel, rfl⟩
theorem d_X6_step_50 : gd cX6_step 50 (.iconst 1) 1 51 := ⟨by decide +kernel, rfl⟩
theorem d_X6_step_51 : gd cX6_step 51 (.goto 4) 3 54 := ⟨by decide +kernel, rfl⟩
theorem d_X6_step_54 : gd cX6_step 54 (.iconst 0) 1 55 := ⟨by decide +kernel, rfl⟩
theorem d_X6_step_55 : gd cX6_step 55 (.invokevirtual 61) 3 58 := ⟨by decide +kernel, rfl⟩
theorem d_X6_step_58 : gd cX6_step 58 (.goto 26) 3 61 := ⟨by decide +kernel, rfl⟩
theorem d_X6_step_61 : gd cX6_step 61 (.aload_n 0) 1 62 := ⟨by decide +kernel, rfl⟩
theorem d_X6_step_62 : gd cX6_step 62 (.invokevirtual 49) 3 65 := ⟨by decide +kernel, rfl⟩
theorem d_X6_step_65 : gd cX6_step 65 (.istore_n 3) 1 66 := ⟨by decide +kernel, rfl⟩
theorem d_X6_step_66 : gd cX6_step 66 (.aload_n 0) 1 67 := ⟨by decide +kernel, rfl⟩
theorem d_X6_step_67 : gd cX6_step 67 (.invokevirtual 49) 3 70 := ⟨by decide +kernel, rfl⟩
theorem d_X6_step_70 : gd cX6_step 70 (.istore 4) 2 72 := ⟨by decide +kernel, rfl⟩
theorem d_X6_step_72 : gd cX6_step 72 (.aload_n 0) 1 73 := ⟨by decide +kernel, rfl⟩
theorem d_X6_step_73 : gd cX6_step 73 (.iload_n 1) 1 74 := ⟨by decide +kernel, rfl⟩
theorem d_X6_step_74 : gd cX6_step 74 .ineg 1 75 := ⟨by decide +kernel, rfl⟩
theorem d_X6_step_75 : gd cX6_step 75 (.iload 4) 2 77 := ⟨by decide +kernel, rfl⟩
theorem d_X6_step_77 : gd cX6_step 77 (.iload_n 3) 1 78 := ⟨by decide +kernel, rfl⟩
theorem d_X6_step_78 : gd cX6_step 78 (.invokestatic 64) 3 81 := ⟨by decide +kernel, rfl⟩
theorem d_X6_step_81 : gd cX6_step 81 (.invokevirtual 61) 3 84 := ⟨by decide +kernel, rfl⟩
theorem d_X6_step_84 : gd cX6_step 84 .return_ 1 85 := ⟨by decide +kernel, rfl⟩
def B_X6_step_55  (xs1 : Int32) (μ : gs_M) : Option (gs_M) :=
  bd0 (D_X6_push xs1 μ) (fun u2 => some u2)
def D_X6_step (x1 : Int32) (μ : gs_M) : Option (gs_M) :=
  bd (D_X6_letterOf (-x1) μ) (fun v3 u2 => if x1 < 0 then (if v3 = (-1 : Int32) then (if x1 = (-33 : Int32) then (bd (D_X6_pop u2) (fun v20 u19 => if v20 = 0 then (B_X6_step_55 (1 : Int32) u19) else (B_X6_step_55 (0 : Int32) u19))) else (bd (D_X6_pop u2) (fun v9 u8 => bd (D_X6_pop u8) (fun v12 u11 => bd (D_X6_joined (-x1) v12 v9 u11) (fun v15 u14 => bd0 (D_X6_push v15 u14) (fun u17 => some u17)))))) else (ck (inb v3 6) (bd0 (D_X6_push (gI u2 17 (Int32.toNatClampNeg v3)) u2) (fun u24 => some u24)))) else (bd0 (D_X6_push x1 u2) (fun u26 => some u26)))
section S_X6_step
variable {p : Program} {l : Launch} {e : Env} {R : Room} {s : State} {m : MethodId} {args : Array Value} {below : List Frame} {meth : Method} {c : Code} {ad : Nat → Nat} {g : va_G} {tyc : Nat → ClassId}
set_option maxRecDepth 20000 in
theorem T_X6_step_55  (hK : KC p R s m args meth c ad g tyc RX6 cX6_step 5 none 2) {μ2 : gs_M}   {xs1 : Int32} {μ : gs_M}  (hD : B_X6_step_55  xs1 μ = some μ2) : WJ p l e R s m args below meth c 0 0 (MQ below (gs_Q ad g tyc none μ2) args s 0 0 (gs_A ad)) ad g tyc 5 55 [gs_J, gs_J, gs_J, gs_J, gs_J] [.int xs1, .ref 16] μ := by
  unfold B_X6_step_55 at hD
  obtain ⟨u2, e1, hD⟩ := bd0_e hD
  refine r_callV (As := [.int xs1]) (st := []) (stk2 := []) hK (C_X6_push  e1) d_X6_step_55 mf_X6_push ml_RX6_61 im_X6_push rfl se_5_RX6_X6_push kd_16 rfl (Nat.le_of_ble_eq_true rfl) (by decide) ⟨Nat.zero_le _, Nat.zero_le _⟩ rfl rfl ?_
  refine r_goto (tgt := 84) hK d_X6_step_58 (by decide) ?_
  cases hD
  exact r_vret hK d_X6_step_84
set_option maxRecDepth 20000 in
theorem C_X6_step  {x1 : Int32} {μ : gs_M} {μ2 : gs_M}  (hD : D_X6_step x1 μ = some μ2) : CALL yX6_step cX6_step 5 none 2 [.ref 16, .int x1] μ none μ2 := by
  unfold D_X6_step at hD
  refine gs_enter mf_X6_step (Nat.le_of_ble_eq_true rfl) (ls := [.ref 16, .int x1, gs_J, gs_J, gs_J]) rfl (fun p l e R s m args below meth c ad g tyc hK => ?_)
  have hK : KC p R s m args meth c ad g tyc RX6 cX6_step 5 none 2 := hK
  refine r_iload_n hK d_X6_step_0 rfl rfl ?_
  refine r_ineg hK d_X6_step_1 ?_
  obtain ⟨v3, u2, e1, hD⟩ := bd_e hD
  refine r_callS (As := [.int (-x1)]) (st := []) (stk2 := [.int v3]) hK (C_X6_letterOf  e1) d_X6_step_2 mf_X6_letterOf ml_RX6_57 ss_X6_letterOf rfl (Nat.le_of_ble_eq_true rfl) (by decide) ⟨Nat.zero_le _, Nat.zero_le _⟩ rfl rfl ?_
  refine r_istore_n hK d_X6_step_5 rfl (by decide) (ls2 := [.ref 16, .int x1, .int v3, gs_J, gs_J]) rfl ?_
  refine r_iload_n hK d_X6_step_6 rfl rfl ?_
  refine r_if_lt (tgt := 18) hK d_X6_step_7 (by decide) (fun h4 => ?_) (fun h4 => ?_)
  · have hD := if_t hD h4
    refine r_iload_n hK d_X6_step_18 rfl rfl ?_
    refine r_iconst hK d_X6_step_19 ci_m1 ?_
    refine r_icmp_eq (tgt := 36) hK d_X6_step_20 (by decide) (fun h5 => ?_) (fun h5 => ?_)
    · have hD := if_t hD h5
      refine r_iload_n hK d_X6_step_36 rfl rfl ?_
      refine r_bipush hK d_X6_step_37 cb_m33 ?_
      refine r_icmp_ne (tgt := 61) hK d_X6_step_39 (by decide) (fun h6 => ?_) (fun h6 => ?_)
      · have hD := if_f hD h6
        refine r_aload_n hK d_X6_step_61 rfl rfl ?_
        obtain ⟨v9, u8, e7, hD⟩ := bd_e hD
        refine r_callV (As := []) (st := []) (stk2 := [.int v9]) hK (C_X6_pop  e7) d_X6_step_62 mf_X6_pop ml_RX6_49 im_X6_pop rfl se_5_RX6_X6_pop kd_16 rfl (Nat.le_of_ble_eq_true rfl) (by decide) ⟨Nat.zero_le _, Nat.zero_le _⟩ rfl rfl ?_
        refine r_istore_n hK d_X6_step_65 rfl (by decide) (ls2 := [.ref 16, .int x1, .int v3, .int v9, gs_J]) rfl ?_
        refine r_aload_n hK d_X6_step_66 rfl rfl ?_
        obtain ⟨v12, u11, e10, hD⟩ := bd_e hD
        refine r_callV (As := []) (st := []) (stk2 := [.int v12]) hK (C_X6_pop  e10) d_X6_step_67 mf_X6_pop ml_RX6_49 im_X6_pop rfl se_5_RX6_X6_pop kd_16 rfl (Nat.le_of_ble_eq_true rfl) (by decide) ⟨Nat.zero_le _, Nat.zero_le _⟩ rfl rfl ?_
        refine r_istore hK d_X6_step_70 (by decide) (ls2 := [.ref 16, .int x1, .int v3, .int v9, .int v12]) rfl ?_
        refine r_aload_n hK d_X6_step_72 rfl rfl ?_
        refine r_iload_n hK d_X6_step_73 rfl rfl ?_
        refine r_ineg hK d_X6_step_74 ?_
        refine r_iload hK d_X6_step_75 rfl ?_
        refine r_iload_n hK d_X6_step_77 rfl rfl ?_
        obtain ⟨v15, u14, e13, hD⟩ := bd_e hD
        refine r_callS (As := [.int (-x1), .int v12, .int v9]) (st := [.ref 16]) (stk2 := [.int v15, .ref 16]) hK (C_X6_joined  e13) d_X6_step_78 mf_X6_joined ml_RX6_64 ss_X6_joined rfl (Nat.le_of_ble_eq_true rfl) (by decide) ⟨Nat.zero_le _, Nat.zero_le _⟩ rfl rfl ?_
        obtain ⟨u17, e16, hD⟩ := bd0_e hD
        refine r_callV (As := [.int v15]) (st := []) (stk2 := []) hK (C_X6_push  e16) d_X6_step_81 mf_X6_push ml_RX6_61 im_X6_push rfl se_5_RX6_X6_push kd_16 rfl (Nat.le_of_ble_eq_true rfl) (by decide) ⟨Nat.zero_le _, Nat.zero_le _⟩ rfl rfl ?_
        cases hD
        exact r_vret hK d_X6_step_84
      · have hD := if_t hD h6
        refine r_aload_n hK d_X6_step_42 rfl rfl ?_
        refine r_aload_n hK d_X6_step_43 rfl rfl ?_
        obtain ⟨v20, u19, e18, hD⟩ := bd_e hD
        refine r_callV (As := []) (st := [.ref 16]) (stk2 := [.int v20, .ref 16]) hK (C_X6_pop  e18) d_X6_step_44 mf_X6_pop ml_RX6_49 im_X6_pop rfl se_5_RX6_X6_pop kd_16 rfl (Nat.le_of_ble_eq_true rfl) (by decide) ⟨Nat.zero_le _, Nat.zero_le _⟩ rfl rfl ?_
        refine r_if_ne (tgt := 54) hK d_X6_step_47 (by decide) (fun h21 => ?_) (fun h21 => ?_)
        · have hD := if_f hD h21
          refine r_iconst hK d_X6_step_54 ci_0 ?_
          refine r_junk [false, false, false, false, false] (ls2 := [gs_J, gs_J, gs_J, gs_J, gs_J]) rfl ?_
          exact T_X6_step_55 hK   hD
        · have hD := if_t hD h21
          refine r_iconst hK d_X6_step_50 ci_1 ?_
          refine r_goto (tgt := 55) hK d_X6_step_51 (by decide) ?_
          refine r_junk [false, false, false, false, false] (ls2 := [gs_J, gs_J, gs_J, gs_J, gs_J]) rfl ?_
          exact T_X6_step_55 hK   hD
    · have hD := if_f hD h5
      refine r_aload_n hK d_X6_step_23 rfl rfl ?_
      refine r_aload_n hK d_X6_step_24 rfl rfl ?_
      refine r_getR hK d_X6_step_25 fl_RX6_13_5 rfl kd_16 ?_
      refine r_ref (b := 17) R0_16_0 ?_
      refine r_iload_n hK d_X6_step_28 rfl rfl ?_
      obtain ⟨h22, hD⟩ := ck_e hD
      refine r_iald hK d_X6_step_29 kd_17 ln_17 (inb_in h22) ?_
      obtain ⟨u24, e23, hD⟩ := bd0_e hD
      refine r_callV (As := [.int (gI u2 17 (Int32.toNatClampNeg v3))]) (st := []) (stk2 := []) hK (C_X6_push  e23) d_X6_step_30 mf_X6_push ml_RX6_61 im_X6_push rfl se_5_RX6_X6_push kd_16 rfl (Nat.le_of_ble_eq_true rfl) (by decide) ⟨Nat.zero_le _, Nat.zero_le _⟩ rfl rfl ?_
      refine r_goto (tgt := 84) hK d_X6_step_33 (by decide) ?_
      cases hD
      exact r_vret hK d_X6_step_84
  · have hD := if_f hD h4
    refine r_aload_n hK d_X6_step_10 rfl rfl ?_
    refine r_iload_n hK d_X6_step_11 rfl rfl ?_
    obtain ⟨u26, e25, hD⟩ := bd0_e hD
    refine r_callV (As := [.int x1]) (st := []) (stk2 := []) hK (C_X6_push  e25) d_X6_step_12 mf_X6_push ml_RX6_61 im_X6_push rfl se_5_RX6_X6_push kd_16 rfl (Nat.le_of_ble_eq_true rfl) (by decide) ⟨Nat.zero_le _, Nat.zero_le _⟩ rfl rfl ?_
    refine r_goto (tgt := 84) hK d_X6_step_15 (by decide) ?_
    cases hD
    exact r_vret hK d_X6_step_84
end S_X6_step
theorem d_X6_worth_0 : gd cX6_worth 0 (.iload_n 1) 1 1 := ⟨by decide +kernel, rfl⟩
theorem d_X6_worth_1 : gd cX6_worth 1 (.iconst 0) 1 2 := ⟨by decide +kernel, rfl⟩
theorem d_X6_worth_2 : gd cX6_worth 2 (.aload_n 0) 1 3 := ⟨by decide +kernel, rfl⟩
theorem d_X6_worth_3 : gd cX6_worth 3 (.getfield 30) 3 6 := ⟨by decide +kernel, rfl⟩
theorem d_X6_worth_6 : gd cX6_worth 6 (.iconst 1) 1 7 := ⟨by decide +kernel, rfl⟩
theorem d_X6_worth_7 : gd cX6_worth 7 .isub 1 8 := ⟨by decide +kernel, rfl⟩
theorem d_X6_worth_8 : gd cX6_worth 8 (.invokestatic 42) 3 11 := ⟨by decide +kernel, rfl⟩
theorem d_X6_worth_11 : gd cX6_worth 11 (.ifCond .ne 5) 3 14 := ⟨by decide +kernel, rfl⟩
theorem d_X6_worth_14 : gd cX6_worth 14 (.iconst 0) 1 15 := ⟨by decide +kernel, rfl⟩
theorem d_X6_worth_15 : gd cX6_worth 15 .ireturn 1 16 := ⟨by decide +kernel, rfl⟩
theorem d_X6_worth_16 : gd cX6_worth 16 (.aload_n 0) 1 17 := ⟨by decide +kernel, rfl⟩
theorem d_X6_worth_17 : gd cX6_worth 17 (.iconst 0) 1 18 := ⟨by decide +kernel, rfl⟩
theorem d_X6_worth_18 : gd cX6_worth 18 (.putfield 46) 3 21 := ⟨by decide +kernel, rfl⟩
theorem d_X6_worth_21 : gd cX6_worth 21 (.iconst 1) 1 22 := ⟨by decide +kernel, rfl⟩
theorem d_X6_worth_22 : gd cX6_worth 22 (.istore_n 2) 1 23 := ⟨by decide +kernel, rfl⟩
theorem d_X6_worth_23 : gd cX6_worth 23 (.iconst 0) 1 24 := ⟨by decide +kernel, rfl⟩
theorem d_X6_worth_24 : gd cX6_worth 24 (.istore_n 3) 1 25 := ⟨by decide +kernel, rfl⟩
theorem d_X6_worth_25 : gd cX6_worth 25 (.iload_n 3) 1 26 := ⟨by decide +kernel, rfl⟩
theorem d_X6_worth_26 : gd cX6_worth 26 (.aload_n 0) 1 27 := ⟨by decide +kernel, rfl⟩
theorem d_X6_worth_27 : gd cX6_worth 27 (.getfield 24) 3 30 := ⟨by decide +kernel, rfl⟩
theorem d_X6_worth_30 : gd cX6_worth 30 (.iload_n 1) 1 31 := ⟨by decide +kernel, rfl⟩
theorem d_X6_worth_31 : gd cX6_worth 31 .iaload 1 32 := ⟨by decide +kernel, rfl⟩
theorem d_X6_worth_32 : gd cX6_worth 32 (.if_icmp .ge 73) 3 35 := ⟨by decide +kernel, rfl⟩
theorem d_X6_worth_35 : gd cX6_worth 35 (.aload_n 0) 1 36 := ⟨by decide +kernel, rfl⟩
theorem d_X6_worth_36 : gd cX6_worth 36 (.getfield 21) 3 39 := ⟨by decide +kernel, rfl⟩
theorem d_X6_worth_39 : gd cX6_worth 39 (.iload_n 1) 1 40 := ⟨by decide +kernel, rfl⟩
theorem d_X6_worth_40 : gd cX6_worth 40 .aaload 1 41 := ⟨by decide +kernel, rfl⟩
theorem d_X6_worth_41 : gd cX6_worth 41 (.iload_n 3) 1 42 := ⟨by decide +kernel, rfl⟩
theorem d_X6_worth_42 : gd cX6_worth 42 .iaload 1 43 := ⟨by decide +kernel, rfl⟩
theorem d_X6_worth_43 : gd cX6_worth 43 (.istore 4) 2 45 := ⟨by decide +kernel, rfl⟩
theorem d_X6_worth_45 : gd cX6_worth 45 (.iload 4) 2 47 := ⟨by decide +kernel, rfl⟩
theorem d_X6_worth_47 : gd cX6_worth 47 (.bipush (-63)) 2 49 := ⟨by decide +kernel, rfl⟩
theorem d_X6_worth_49 : gd cX6_worth 49 (.if_icmp .ne 19) 3 52 := ⟨by decide +kernel, rfl⟩
theorem d_X6_worth_52 : gd cX6_worth 52 (.aload_n 0) 1 53 := ⟨by decide +kernel, rfl⟩
theorem d_X6_worth_53 : gd cX6_worth 53 (.invokevirtual 49) 3 56 := ⟨by decide +kernel, rfl⟩
theorem d_X6_worth_56 : gd cX6_worth 56 (.ifCond .eq 7) 3 59 := ⟨by decide +kernel, rfl⟩
theorem d_X6_worth_59 : gd cX6_worth 59 (.iconst 1) 1 60 := ⟨by decide +kernel, rfl⟩
theorem d_X6_worth_60 : gd cX6_worth 60 (.goto 4) 3 63 := ⟨by decide +kernel, rfl⟩
theorem d_X6_worth_63 : gd cX6_worth 63 (.iconst 0) 1 64 := ⟨by decide +kernel, rfl⟩
theorem d_X6_worth_64 : gd cX6_worth 64 (.istore_n 2) 1 65 := ⟨by decide +kernel, rfl⟩
theorem d_X6_worth_65 : gd cX6_worth 65 (.goto 34) 3 68 := ⟨by decide +kernel, rfl⟩
theorem d_X6_worth_68 : gd cX6_worth 68 (.iload 4) 2 70 := ⟨by decide +kernel, rfl⟩
theorem d_X6_worth_70 : gd cX6_worth 70 (.bipush (-121)) 2 72 := ⟨by decide +kernel, rfl⟩
theorem d_X6_worth_72 : gd cX6_worth 72 (.if_icmp .ne 21) 3 75 := ⟨by decide +kernel, rfl⟩
theorem d_X6_worth_75 : gd cX6_worth 75 (.aload_n 0) 1 76 := ⟨by decide +kernel, rfl⟩
theorem d_X6_worth_76 : gd cX6_worth 76 (.invokevirtual 49) 3 79 := ⟨by decide +kernel, rfl⟩
theorem d_X6_worth_79 : gd cX6_worth 79 (.istore 5) 2 81 := ⟨by decide +kernel, rfl⟩
theorem d_X6_worth_81 : gd cX6_worth 81 (.iload_n 2) 1 82 := ⟨by decide +kernel, rfl⟩
theorem d_X6_worth_82 : gd cX6_worth 82 (.ifCond .eq 6) 3 85 := ⟨by decide +kernel, rfl⟩
theorem d_X6_worth_85 : gd cX6_worth 85 (.iload 5) 2 87 := ⟨by decide +kernel, rfl⟩
theorem d_X6_worth_87 : gd cX6_worth 87 .ireturn 1 88 := ⟨by decide +kernel, rfl⟩
theorem d_X6_worth_88 : gd cX6_worth 88 (.iconst 1) 1 89 := ⟨by decide +kernel, rfl⟩
theorem d_X6_worth_89 : gd cX6_worth 89 (.istore_n 2) 1 90 := ⟨by decide +kernel, rfl⟩
theorem d_X6_worth_90 : gd cX6_worth 90 (.goto 9) 3 93 := ⟨by decide +kernel, rfl⟩
theorem d_X6_worth_93 : gd cX6_worth 93 (.aload_n 0) 1 94 := ⟨by decide +kernel, rfl⟩
theorem d_X6_worth_94 : gd cX6_worth 94 (.iload 4) 2 96 := ⟨by decide +kernel, rfl⟩
theorem d_X6_worth_96 : gd cX6_worth 96 (.invokevirtual 53) 3 99 := ⟨by decide +kernel, rfl⟩
theorem d_X6_worth_99 : gd cX6_worth 99 (.iinc 3 1) 3 102 := ⟨by decide +kernel, rfl⟩
theorem d_X6_worth_102 : gd cX6_worth 102 (.goto (-77)) 3 105 := ⟨by decide +kernel, rfl⟩
theorem d_X6_worth_105 : gd cX6_worth 105 (.iconst 0) 1 106 := ⟨by decide +kernel, rfl⟩
theorem d_X6_worth_106 : gd cX6_worth 106 .ireturn 1 107 := ⟨by decide +kernel, rfl⟩
def Bo_X6_worth_25 (q25 : Int32 → Int32 → Int32 → gs_M → Option (Int32 × gs_M)) (x1 : Int32) (x2 : Int32) (x3 : Int32) (μ : gs_M) : Option (Int32 × gs_M) :=
  ck (inb x1 4) (if (gI μ 23 (Int32.toNatClampNeg x1)) ≤ x3 then (some ((0 : Int32), μ)) else (ck (inb x1 4) (ck (inb x3 160) (lt1 (gI μ (19 + Int32.toNatClampNeg x1) (Int32.toNatClampNeg x3)) (fun v5 => if v5 = (-63 : Int32) then (bd (D_X6_pop μ) (fun v16 u15 => if v16 = 0 then (q25 x1 (0 : Int32) (x3 + (1 : Int32)) u15) else (q25 x1 (1 : Int32) (x3 + (1 : Int32)) u15))) else (if v5 = (-121 : Int32) then (bd (D_X6_pop μ) (fun v12 u11 => if x2 = 0 then (q25 x1 (1 : Int32) (x3 + (1 : Int32)) u11) else (some (v12, u11)))) else (bd0 (D_X6_step v5 μ) (fun u9 => q25 x1 x2 (x3 + (1 : Int32)) u9))))))))
def L_X6_worth_25  : Nat → Int32 → Int32 → Int32 → gs_M → Option (Int32 × gs_M)
  | 0 => fun _ _ _ _ => none
  | n + 1 => fun x1 x2 x3 μ => Bo_X6_worth_25  (L_X6_worth_25  n) x1 x2 x3 μ
def D_X6_worth (x1 : Int32) (μ : gs_M) : Option (Int32 × gs_M) :=
  bd (D_X11_within x1 (0 : Int32) ((gI μ 16 1) - (1 : Int32)) μ) (fun v3 u2 => if v3 = 0 then (some ((0 : Int32), u2)) else (lt1 (sI u2 16 5 (0 : Int32)) (fun u5 => L_X6_worth_25 4096 x1 (1 : Int32) (0 : Int32) u5)))
section S_X6_worth
variable {p : Program} {l : Launch} {e : Env} {R : Room} {s : State} {m : MethodId} {args : Array Value} {below : List Frame} {meth : Method} {c : Code} {ad : Nat → Nat} {g : va_G} {tyc : Nat → ClassId}
set_option maxRecDepth 20000 in
theorem To_X6_worth_25  (hK : KC p R s m args meth c ad g tyc RX6 cX6_worth 6 (some .int) 3) {r : Int32} {μ2 : gs_M} {q25 : Int32 → Int32 → Int32 → gs_M → Option (Int32 × gs_M)} (hq25 : ∀ (x1 : Int32) (x2 : Int32) (x3 : Int32) (μ : gs_M), q25 x1 x2 x3 μ = some (r, μ2) → WJ p l e R s m args below meth c 0 0 (MQ below (gs_Q ad g tyc (some (.int r)) μ2) args s 0 0 (gs_A ad)) ad g tyc 6 25 [.ref 16, .int x1, .int x2, .int x3, gs_J, gs_J] [] μ) {x1 : Int32} {x2 : Int32} {x3 : Int32} {μ : gs_M}  (hD : Bo_X6_worth_25 q25 x1 x2 x3 μ = some (r, μ2)) : WJ p l e R s m args below meth c 0 0 (MQ below (gs_Q ad g tyc (some (.int r)) μ2) args s 0 0 (gs_A ad)) ad g tyc 6 25 [.ref 16, .int x1, .int x2, .int x3, gs_J, gs_J] [] μ := by
  unfold Bo_X6_worth_25 at hD
  refine r_iload_n hK d_X6_worth_25 rfl rfl ?_
  refine r_aload_n hK d_X6_worth_26 rfl rfl ?_
  refine r_getR hK d_X6_worth_27 fl_RX6_24_5 rfl kd_16 ?_
  refine r_ref (b := 23) R0_16_3 ?_
  refine r_iload_n hK d_X6_worth_30 rfl rfl ?_
  obtain ⟨h1, hD⟩ := ck_e hD
  refine r_iald hK d_X6_worth_31 kd_23 ln_23 (inb_in h1) ?_
  refine r_icmp_ge (tgt := 105) hK d_X6_worth_32 (by decide) (fun h2 => ?_) (fun h2 => ?_)
  · have hD := if_t hD h2
    refine r_iconst hK d_X6_worth_105 ci_0 ?_
    cases hD
    exact r_iret hK d_X6_worth_106
  · have hD := if_f hD h2
    refine r_aload_n hK d_X6_worth_35 rfl rfl ?_
    refine r_getR hK d_X6_worth_36 fl_RX6_21_5 rfl kd_16 ?_
    refine r_ref (b := 18) R0_16_2 ?_
    refine r_iload_n hK d_X6_worth_39 rfl rfl ?_
    obtain ⟨h3, hD⟩ := ck_e hD
    refine r_aaldJ hK d_X6_worth_40 kd_18 ln_18 (inb_in h3) ?_
    refine r_ref (b := (19 + Int32.toNatClampNeg x1)) ((ly_18 _ (inb_lt h3)).1) ?_
    refine r_iload_n hK d_X6_worth_41 rfl rfl ?_
    obtain ⟨h4, hD⟩ := ck_e hD
    refine r_iald hK d_X6_worth_42 ((ly_18 _ (inb_lt h3)).2.1) ((ly_18 _ (inb_lt h3)).2.2) (inb_in h4) ?_
    refine r_lti hD (fun v5 hD => ?_)
    refine r_istore hK d_X6_worth_43 (by decide) (ls2 := [.ref 16, .int x1, .int x2, .int x3, .int v5, gs_J]) rfl ?_
    refine r_iload hK d_X6_worth_45 rfl ?_
    refine r_bipush hK d_X6_worth_47 cb_m63 ?_
    refine r_icmp_ne (tgt := 68) hK d_X6_worth_49 (by decide) (fun h6 => ?_) (fun h6 => ?_)
    · have hD := if_f hD h6
      refine r_iload hK d_X6_worth_68 rfl ?_
      refine r_bipush hK d_X6_worth_70 cb_m121 ?_
      refine r_icmp_ne (tgt := 93) hK d_X6_worth_72 (by decide) (fun h7 => ?_) (fun h7 => ?_)
      · have hD := if_f hD h7
        refine r_aload_n hK d_X6_worth_93 rfl rfl ?_
        refine r_iload hK d_X6_worth_94 rfl ?_
        obtain ⟨u9, e8, hD⟩ := bd0_e hD
        refine r_callV (As := [.int v5]) (st := []) (stk2 := []) hK (C_X6_step  e8) d_X6_worth_96 mf_X6_step ml_RX6_53 im_X6_step rfl se_5_RX6_X6_step kd_16 rfl (Nat.le_of_ble_eq_true rfl) (by decide) ⟨Nat.zero_le _, Nat.zero_le _⟩ rfl rfl ?_
        refine r_iinc hK d_X6_worth_99 rfl (v := x3 + (1 : Int32)) (by rw [ci_1]) (by decide) (ls2 := [.ref 16, .int x1, .int x2, .int (x3 + (1 : Int32)), .int v5, gs_J]) rfl ?_
        refine r_goto (tgt := 25) hK d_X6_worth_102 (by decide) ?_
        refine r_junk [true, true, true, true, false, false] (ls2 := [.ref 16, .int x1, .int x2, .int (x3 + (1 : Int32)), gs_J, gs_J]) rfl ?_
        exact hq25 _ _ _ _  hD
      · have hD := if_t hD h7
        refine r_aload_n hK d_X6_worth_75 rfl rfl ?_
        obtain ⟨v12, u11, e10, hD⟩ := bd_e hD
        refine r_callV (As := []) (st := []) (stk2 := [.int v12]) hK (C_X6_pop  e10) d_X6_worth_76 mf_X6_pop ml_RX6_49 im_X6_pop rfl se_5_RX6_X6_pop kd_16 rfl (Nat.le_of_ble_eq_true rfl) (by decide) ⟨Nat.zero_le _, Nat.zero_le _⟩ rfl rfl ?_
        refine r_istore hK d_X6_worth_79 (by decide) (ls2 := [.ref 16, .int x1, .int x2, .int x3, .int v5, .int v12]) rfl ?_
        refine r_iload_n hK d_X6_worth_81 rfl rfl ?_
        refine r_if_eq (tgt := 88) hK d_X6_worth_82 (by decide) (fun h13 => ?_) (fun h13 => ?_)
        · have hD := if_t hD h13
          refine r_iconst hK d_X6_worth_88 ci_1 ?_
          refine r_istore_n hK d_X6_worth_89 rfl (by decide) (ls2 := [.ref 16, .int x1, .int (1 : Int32), .int x3, .int v5, .int v12]) rfl ?_
          refine r_goto (tgt := 99) hK d_X6_worth_90 (by decide) ?_
          refine r_iinc hK d_X6_worth_99 rfl (v := x3 + (1 : Int32)) (by rw [ci_1]) (by decide) (ls2 := [.ref 16, .int x1, .int (1 : Int32), .int (x3 + (1 : Int32)), .int v5, .int v12]) rfl ?_
          refine r_goto (tgt := 25) hK d_X6_worth_102 (by decide) ?_
          refine r_junk [true, true, true, true, false, false] (ls2 := [.ref 16, .int x1, .int (1 : Int32), .int (x3 + (1 : Int32)), gs_J, gs_J]) rfl ?_
          exact hq25 _ _ _ _  hD
        · have hD := if_f hD h13
          refine r_iload hK d_X6_worth_85 rfl ?_
          cases hD
          exact r_iret hK d_X6_worth_87
    · have hD := if_t hD h6
      refine r_aload_n hK d_X6_worth_52 rfl rfl ?_
      obtain ⟨v16, u15, e14, hD⟩ := bd_e hD
      refine r_callV (As := []) (st := []) (stk2 := [.int v16]) hK (C_X6_pop  e14) d_X6_worth_53 mf_X6_pop ml_RX6_49 im_X6_pop rfl se_5_RX6_X6_pop kd_16 rfl (Nat.le_of_ble_eq_true rfl) (by decide) ⟨Nat.zero_le _, Nat.zero_le _⟩ rfl rfl ?_
      refine r_if_eq (tgt := 63) hK d_X6_worth_56 (by decide) (fun h17 => ?_) (fun h17 => ?_)
      · have hD := if_t hD h17
        refine r_iconst hK d_X6_worth_63 ci_0 ?_
        refine r_istore_n hK d_X6_worth_64 rfl (by decide) (ls2 := [.ref 16, .int x1, .int (0 : Int32), .int x3, .int v5, gs_J]) rfl ?_
        refine r_goto (tgt := 99) hK d_X6_worth_65 (by decide) ?_
        refine r_iinc hK d_X6_worth_99 rfl (v := x3 + (1 : Int32)) (by rw [ci_1]) (by decide) (ls2 := [.ref 16, .int x1, .int (0 : Int32), .int (x3 + (1 : Int32)), .int v5, gs_J]) rfl ?_
        refine r_goto (tgt := 25) hK d_X6_worth_102 (by decide) ?_
        refine r_junk [true, true, true, true, false, false] (ls2 := [.ref 16, .int x1, .int (0 : Int32), .int (x3 + (1 : Int32)), gs_J, gs_J]) rfl ?_
        exact hq25 _ _ _ _  hD
      · have hD := if_f hD h17
        refine r_iconst hK d_X6_worth_59 ci_1 ?_
        refine r_goto (tgt := 64) hK d_X6_worth_60 (by decide) ?_
        refine r_istore_n hK d_X6_worth_64 rfl (by decide) (ls2 := [.ref 16, .int x1, .int (1 : Int32), .int x3, .int v5, gs_J]) rfl ?_
        refine r_goto (tgt := 99) hK d_X6_worth_65 (by decide) ?_
        refine r_iinc hK d_X6_worth_99 rfl (v := x3 + (1 : Int32)) (by rw [ci_1]) (by decide) (ls2 := [.ref 16, .int x1, .int (1 : Int32), .int (x3 + (1 : Int32)), .int v5, gs_J]) rfl ?_
        refine r_goto (tgt := 25) hK d_X6_worth_102 (by decide) ?_
        refine r_junk [true, true, true, true, false, false] (ls2 := [.ref 16, .int x1, .int (1 : Int32), .int (x3 + (1 : Int32)), gs_J, gs_J]) rfl ?_
        exact hq25 _ _ _ _  hD
set_option maxRecDepth 20000 in
theorem TL_X6_worth_25  (hK : KC p R s m args meth c ad g tyc RX6 cX6_worth 6 (some .int) 3) {r : Int32} {μ2 : gs_M}   : ∀ (n : Nat) (x1 : Int32) (x2 : Int32) (x3 : Int32) (μ : gs_M), L_X6_worth_25  n x1 x2 x3 μ = some (r, μ2) → WJ p l e R s m args below meth c 0 0 (MQ below (gs_Q ad g tyc (some (.int r)) μ2) args s 0 0 (gs_A ad)) ad g tyc 6 25 [.ref 16, .int x1, .int x2, .int x3, gs_J, gs_J] [] μ := by
  intro n
  induction n with
  | zero => intro x1 x2 x3 μ  hD; cases hD
  | succ n ih => intro x1 x2 x3 μ  hD; exact To_X6_worth_25 hK  ih  hD
set_option maxRecDepth 20000 in
theorem C_X6_worth  {x1 : Int32} {μ : gs_M} {r : Int32} {μ2 : gs_M}  (hD : D_X6_worth x1 μ = some (r, μ2)) : CALL yX6_worth cX6_worth 6 (some .int) 3 [.ref 16, .int x1] μ (some (.int r)) μ2 := by
  unfold D_X6_worth at hD
  refine gs_enter mf_X6_worth (Nat.le_of_ble_eq_true rfl) (ls := [.ref 16, .int x1, gs_J, gs_J, gs_J, gs_J]) rfl (fun p l e R s m args below meth c ad g tyc hK => ?_)
  have hK : KC p R s m args meth c ad g tyc RX6 cX6_worth 6 (some .int) 3 := hK
  refine r_iload_n hK d_X6_worth_0 rfl rfl ?_
  refine r_iconst hK d_X6_worth_1 ci_0 ?_
  refine r_aload_n hK d_X6_worth_2 rfl rfl ?_
  refine r_getI hK d_X6_worth_3 fl_RX6_30_5 rfl kd_16 ?_
  refine r_iconst hK d_X6_worth_6 ci_1 ?_
  refine r_isub hK d_X6_worth_7 ?_
  obtain ⟨v3, u2, e1, hD⟩ := bd_e hD
  refine r_callSN (As := [.int x1, .int (0 : Int32), .int ((gI μ 16 1) - (1 : Int32))]) (st := []) (stk2 := [.int v3]) hK (C_X11_within  e1) d_X6_worth_8 mf_X11_within mn_RX6_42 ss_X11_within rfl (Nat.le_of_ble_eq_true rfl) (by decide) ⟨Nat.zero_le _, Nat.zero_le _⟩ rfl rfl ?_
  refine r_if_ne (tgt := 16) hK d_X6_worth_11 (by decide) (fun h4 => ?_) (fun h4 => ?_)
  · have hD := if_f hD h4
    refine r_aload_n hK d_X6_worth_16 rfl rfl ?_
    refine r_iconst hK d_X6_worth_17 ci_0 ?_
    refine r_putI hK d_X6_worth_18 fl_RX6_46_5 rfl rfl kd_16 ?_
    refine r_ltm hD (fun u5 hD => ?_)
    refine r_iconst hK d_X6_worth_21 ci_1 ?_
    refine r_istore_n hK d_X6_worth_22 rfl (by decide) (ls2 := [.ref 16, .int x1, .int (1 : Int32), gs_J, gs_J, gs_J]) rfl ?_
    refine r_iconst hK d_X6_worth_23 ci_0 ?_
    refine r_istore_n hK d_X6_worth_24 rfl (by decide) (ls2 := [.ref 16, .int x1, .int (1 : Int32), .int (0 : Int32), gs_J, gs_J]) rfl ?_
    exact TL_X6_worth_25 hK  _ _ _ _ _  hD
  · have hD := if_t hD h4
    refine r_iconst hK d_X6_worth_14 ci_0 ?_
    cases hD
    exact r_iret hK d_X6_worth_15
end S_X6_worth
