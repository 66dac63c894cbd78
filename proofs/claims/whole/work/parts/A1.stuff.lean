/-! stuff: what both answer -/
theorem stf_e {i : Nat} {μ : gs_M} (h : Rel i μ) (x1 x2 : Int32) :
    (∃ v : Int32, D_X9_has 7 x1 μ = some (1, μ) ∧ D_X11_within x2 0 4 μ = some (1, μ) ∧ D_X9_number 7 x1 0 x2 μ = some (v, μ) ∧ D_X12_stuff x1 x2 (sL μ 98 0 (Int32.toInt64 v)) = some (v, sI (sL μ 98 0 (Int32.toInt64 v)) 78 0 0)) ∨
    ((D_X9_has 7 x1 μ = some (0, μ) ∨ (D_X9_has 7 x1 μ = some (1, μ) ∧ D_X11_within x2 0 4 μ = some (0, μ))) ∧ D_X12_stuff x1 x2 μ = some (0, sI μ 78 0 1)) := by
  obtain ⟨-, ⟨st, ⟨u1, u2, u3, u4, u5⟩, -, -⟩, -⟩ := h
  have isf : ∀ ν : gs_M, ν.1 78 24 = nI st → D_X12_isStuff x1 ν = some (if x1 < 0 ∨ nI st ≤ x1 then 0 else 1, ν) := by
    intro ν hν
    unfold D_X12_isStuff B_X12_isStuff_16
    rw [gI_d ν 78 24, hν]
    by_cases q1 : x1 < 0
    · rw [if_pos q1, if_pos (Or.inl q1)]
    · rw [if_neg q1]
      by_cases q2 : nI st ≤ x1
      · rw [if_pos q2, if_pos (Or.inr q2)]
      · rw [if_neg q2, if_neg (by rintro (q | q); exact q1 q; exact q2 q)]
  have has : D_X9_has 7 x1 μ = some (if x1 < 0 ∨ nI st ≤ x1 then 0 else 1, μ) := by
    unfold D_X9_has B_X9_has_16
    rw [gI_d μ 7 3, u2]
    by_cases q1 : x1 < 0
    · rw [if_pos q1, if_pos (Or.inl q1)]
    · rw [if_neg q1]
      by_cases q2 : nI st ≤ x1
      · rw [if_pos q2, if_pos (Or.inr q2)]
      · rw [if_neg q2, if_neg (by rintro (q | q); exact q1 q; exact q2 q)]
  have thr : B_X12_stuff_22 x1 x2 μ = some (0, sI μ 78 0 1) := by
    unfold B_X12_stuff_22 B_X12_stuff_23
    rw [lt1, gI_d, sI_u, if_neg (by decide)]
  rcases ix_e (x := x1) (n := st) (by omega) with hx | ⟨k, hk, rfl⟩
  · right
    rw [if_pos hx] at has
    refine ⟨Or.inl has, ?_⟩
    unfold D_X12_stuff
    rw [isf μ u4, if_pos hx, bd_s, if_pos rfl, thr]
  · have hx : ¬ (nI k < 0 ∨ nI st ≤ nI k) := by
      rintro (q | q)
      · exact nI_nlt (a := k) (b := 0) (by omega) (by omega) q
      · exact nI_ge hk (by omega) q
    rw [if_neg hx] at has
    rcases inN_n (x := x2) (n := 5) (by decide) (by decide) with ⟨-, hw⟩ | ⟨j, hj, rfl, hw⟩
    · right
      have hw' : inN x2 0 4 = 0 := hw
      refine ⟨Or.inr ⟨has, by rw [wi_e, hw']⟩, ?_⟩
      unfold D_X12_stuff
      rw [isf μ u4, if_neg hx, bd_s, if_neg z10, ii_e, bd_s, hw', if_pos rfl, thr]
    · left
      have hw' : inN (nI j) 0 4 = 1 := hw
      obtain ⟨e1, e2, -⟩ := u5 k hk
      have a1 : (nI k * 4 + 0) * 5 + nI j = nI (20 * k + j) := by
        rw [show (4 : Int32) = nI 4 from rfl, show (5 : Int32) = nI 5 from rfl, show (0 : Int32) = nI 0 from rfl, pk_mul, nI_add, pk_mul, nI_add]
        congr 1
        omega
      have a2 : (5 : Int32) * nI k + nI j = nI (5 * k + j) := by
        rw [show (5 : Int32) = nI 5 from rfl, pk_mul, nI_add]
      refine ⟨μ.1 9 (20 * k + j), has, by rw [wi_e, hw'], ?_, ?_⟩
      · unfold D_X9_number
        rw [has, bd_s, if_neg z10, if_neg (by decide), inb_n (show k < 6 by omega) (by decide), ck_t, nI_clamp (by omega), gI_d μ (7 + 1) k, e1, if_neg (by decide), wi_e, bd_s, hw', if_neg z10, a1, inb_n (show 20 * k + j < 120 by omega) (by decide), ck_t, nI_clamp (by omega), gI_d μ (7 + 2) (20 * k + j)]
      · unfold D_X12_stuff B_X12_stuff_23 D_X12_partOf
        rw [isf (sL μ 98 0 _) u4, if_neg hx, bd_s, if_neg z10, ii_e, bd_s, hw', if_neg z10, lt1, gI_d, sI_u, if_pos (by decide), a2, inb_n (show 5 * k + j < 35 by omega) (by decide), ck_t, bd_s, nI_clamp (by omega), gI_d, sI_n _ _ _ (by decide), sL_I, e2 j hj]
/-! its words -/
def gs_NE : String := "java/util/NoSuchElementException"
def gs_nmX : List String := ["java/lang/RuntimeException", "java/lang/Exception"]
def gs_nog : List Cond := [.declares ⟨"java/lang/RuntimeException", "<init>", "()V"⟩, .declares ⟨"java/lang/Exception", "<init>", "()V"⟩, .declares ⟨"java/lang/Throwable", "<init>", "()V"⟩, .castable "java/util/NoSuchElementException" "java/util/NoSuchElementException"]
def gs_ngi : List Nat := [1053, 1055, 1057, 1052]
theorem gs_nge : gs_ngi.map (fun i => tables_1[i]?) = gs_nog.map some := by decide +kernel
def gs_ati : List Nat := [19, 1072, 1081, 1083, 1086, 1088, 1073, 1074, 29, 30, 1075, 1080, 1084, 1100, 1062, 1101, 1064, 1102, 1066, 1076, 1078, 1068, 1090, 1091, 1092, 1093, 1053, 1093, 1094, 1095, 1096, 1055, 1096, 1097, 1098, 1073, 1057, 1089, 1051, 1052, 1059, 1060, 1061, 1063, 1065, 1067, 1071, 1070, 1069]
theorem gs_ate : gs_ati.map (fun i => tables_1[i]?) = (vx_at0 "GrainShift" 149 gs_NE gs_nmX).map some := by decide +kernel
theorem gs_atg : ∀ w ∈ vx_at0 "GrainShift" 149 gs_NE gs_nmX, goodWord w = true ∨ w ∈ gs_nog := by decide +kernel
theorem gs_ato : ∀ w ∈ Cond.classLink "GrainShift" 147 gs_NE :: Cond.initialized gs_NE :: vx_at0 "GrainShift" 149 gs_NE gs_nmX, vx_ot w = true := by decide +kernel
theorem gs_ngo : ∀ w ∈ gs_nog, w.onTables = true := by decide +kernel
theorem gs_ix {is : List Nat} {L : List Cond} (h : is.map (fun i => tables_1[i]?) = L.map some) : ∀ w ∈ L, w ∈ lw_tbl := by
  intro w hw
  have h1 : some w ∈ L.map some := List.mem_map.mpr ⟨w, hw, rfl⟩
  rw [← h] at h1
  obtain ⟨i, -, hi⟩ := List.mem_map.mp h1
  exact lw_in i hi
theorem gs_atm : ∀ w ∈ vx_at0 "GrainShift" 149 gs_NE gs_nmX, w ∈ gs_tbl ∨ w ∈ gs_nog := fun w hw => (gs_atg w hw).imp (fun hg => List.mem_filter.mpr ⟨gs_ix gs_ate w hw, hg⟩) id
theorem cl_147 : Cond.classLink "GrainShift" 147 gs_NE ∈ gs_tbl := gs_t 1050 (by decide +kernel) (by decide +kernel)
theorem in_NE : Cond.initialized gs_NE ∈ gs_tbl := gs_t 22 (by decide +kernel) (by decide +kernel)
/-- what a state says of throwing -/
def gs_TH (ad : Nat → Nat) (U : State) : Prop := (∀ w ∈ gs_nog, va_Nw w U) ∧ vx_Zq Bundle.tN "UNASSIGNED_STACK" Bundle.steD (gs_A ad) U U.heap ∧ vx_Zq Bundle.tN "SUPPRESSED_SENTINEL" Bundle.listD (gs_A ad) U U.heap
theorem gs_nw {s U : State} (hW : s.WarmedH U.vm) (h : ∀ w ∈ gs_nog, va_Nw w s) : ∀ w ∈ gs_nog, va_Nw w U := by
  intro w hw
  have hz := h w hw
  unfold gs_nog at hw
  simp only [List.mem_cons, List.not_mem_nil, or_false] at hw
  rcases hw with rfl | rfl | rfl | rfl
  · exact va_Nw.warmD hW hz
  · exact va_Nw.warmD hW hz
  · exact va_Nw.warmD hW hz
  · exact va_Nw.warmC hW hz
theorem gs_TH.go {ad : Nat → Nat} {s U : State} {H : Heap} {locs : List Loc} (h : gs_TH ad s) (hS : va_S (gs_A ad) s.heap H locs) (hU : U.heap = H) (hW : s.WarmedH U.vm) : gs_TH ad U := by
  obtain ⟨h1, h2, h3⟩ := h
  refine ⟨gs_nw hW h1, ?_, ?_⟩
  · rw [hU]; exact vx_Zq.moved hW.alike (h2.kept hS.2.1)
  · rw [hU]; exact vx_Zq.moved hW.alike (h3.kept hS.2.1)
theorem gs_TH.calling {ad : Nat → Nat} {U : State} {f : JFrame} {mk : MethodId} {a : Array Value} (h : gs_TH ad U) : gs_TH ad (U.calling f mk a) :=
  ⟨fun w hw => va_Nw.same (gs_ngo w hw) (u := U) rfl (h.1 w hw), vx_Zq.moved (u := U) (U := U.calling f mk a) (Vm.Alike.refl U.vm) h.2.1, vx_Zq.moved (u := U) (U := U.calling f mk a) (Vm.Alike.refl U.vm) h.2.2⟩
def gs_PcX (ad : Nat → Nat) (g : va_G) (tyc : Nat → ClassId) (av : List Value) (μ : gs_M) : Array Value → State → Prop := va_Pc (av.map (vr ad)) (fun U => va_P g vwCl (gs_ws ad tyc μ) U.heap ∧ gs_WU ad g tyc U ∧ gs_TH ad U)
theorem gs_blindX {ad : Nat → Nat} {g : va_G} {tyc : Nat → ClassId} {av : List Value} {μ : gs_M} : FrameBlind (gs_PcX ad g tyc av μ) := fun _ _ _ _ q => ⟨q.1, q.2.1, q.2.2.1.calling, q.2.2.2.calling⟩
def gs_rmX (d : Nat) : Room := { frames := d, cells := 1, slots := 6, locals := d * 64 }
theorem mf_X11_stuff : gs_MF yX11_stuff cX11_stuff 3 (some .int) 2 := ⟨gs_t 1049 (by decide +kernel) (by decide +kernel), gs_t 1 (by decide +kernel) (by decide +kernel), by decide, by decide, by decide +kernel, by decide, by decide⟩
theorem im_X11_stuff : Cond.instanceMethod yX11_stuff ∈ gs_tbl := gs_t 1047 (by decide +kernel) (by decide +kernel)
theorem se_X11_stuff : Cond.selects RX11 yX11_stuff yX11_stuff ∈ gs_tbl := gs_t 1048 (by decide +kernel) (by decide +kernel)
theorem ml_L_7 : Cond.methodLink "GrainShiftLaw" 7 yX11_stuff ∈ gs_tbl := gs_t 1046 (by decide +kernel) (by decide +kernel)
theorem d_X11_stuff_0 : gd cX11_stuff 0 (.aload_n 0) 1 1 := ⟨by decide +kernel, rfl⟩
theorem d_X11_stuff_1 : gd cX11_stuff 1 (.getfield 37) 3 4 := ⟨by decide +kernel, rfl⟩
theorem d_X11_stuff_4 : gd cX11_stuff 4 (.iload_n 1) 1 5 := ⟨by decide +kernel, rfl⟩
theorem d_X11_stuff_5 : gd cX11_stuff 5 (.invokevirtual 143) 3 8 := ⟨by decide +kernel, rfl⟩
theorem d_X11_stuff_8 : gd cX11_stuff 8 (.ifCond .eq 12) 3 11 := ⟨by decide +kernel, rfl⟩
theorem d_X11_stuff_11 : gd cX11_stuff 11 (.iload_n 2) 1 12 := ⟨by decide +kernel, rfl⟩
theorem d_X11_stuff_12 : gd cX11_stuff 12 (.iconst 0) 1 13 := ⟨by decide +kernel, rfl⟩
theorem d_X11_stuff_13 : gd cX11_stuff 13 (.iconst 4) 1 14 := ⟨by decide +kernel, rfl⟩
theorem d_X11_stuff_14 : gd cX11_stuff 14 (.invokestatic 123) 3 17 := ⟨by decide +kernel, rfl⟩
theorem d_X11_stuff_17 : gd cX11_stuff 17 (.ifCond .ne 11) 3 20 := ⟨by decide +kernel, rfl⟩
theorem d_X11_stuff_20 : gd cX11_stuff 20 (.new 147) 3 23 := ⟨by decide +kernel, rfl⟩
theorem d_X11_stuff_23 : gd cX11_stuff 23 .dup 1 24 := ⟨by decide +kernel, rfl⟩
theorem d_X11_stuff_24 : gd cX11_stuff 24 (.invokespecial 149) 3 27 := ⟨by decide +kernel, rfl⟩
theorem d_X11_stuff_27 : gd cX11_stuff 27 .athrow 1 28 := ⟨by decide +kernel, rfl⟩
theorem d_X11_stuff_28 : gd cX11_stuff 28 (.aload_n 0) 1 29 := ⟨by decide +kernel, rfl⟩
theorem d_X11_stuff_29 : gd cX11_stuff 29 (.getfield 37) 3 32 := ⟨by decide +kernel, rfl⟩
theorem d_X11_stuff_32 : gd cX11_stuff 32 (.iload_n 1) 1 33 := ⟨by decide +kernel, rfl⟩
theorem d_X11_stuff_33 : gd cX11_stuff 33 (.iconst 0) 1 34 := ⟨by decide +kernel, rfl⟩
theorem d_X11_stuff_34 : gd cX11_stuff 34 (.iload_n 2) 1 35 := ⟨by decide +kernel, rfl⟩
theorem d_X11_stuff_35 : gd cX11_stuff 35 (.invokevirtual 150) 3 38 := ⟨by decide +kernel, rfl⟩
theorem d_X11_stuff_38 : gd cX11_stuff 38 .ireturn 1 39 := ⟨by decide +kernel, rfl⟩
section S_X11_stuff
variable {p : Program} {l : Launch} {e : Env} {R : Room} {s : State} {m : MethodId} {args : Array Value} {below : List Frame} {meth : Method} {c : Code} {ad : Nat → Nat} {g : va_G} {tyc : Nat → ClassId}
set_option maxRecDepth 20000 in
/-- where it returns -/
theorem C_X11_stuff {x1 x2 v : Int32} {μ : gs_M} (h1 : D_X9_has 7 x1 μ = some (1, μ)) (h2 : D_X11_within x2 0 4 μ = some (1, μ)) (h3 : D_X9_number 7 x1 0 x2 μ = some (v, μ)) : CALL yX11_stuff cX11_stuff 3 (some .int) 3 [.ref 0, .int x1, .int x2] μ (some (.int v)) μ := by
  refine gs_enter mf_X11_stuff (Nat.le_of_ble_eq_true rfl) (ls := [.ref 0, .int x1, .int x2]) rfl (fun p l e R s m args below meth c ad g tyc hK => ?_)
  have hK : KC p R s m args meth c ad g tyc RX11 cX11_stuff 3 (some .int) 3 := hK
  refine r_aload_n hK d_X11_stuff_0 rfl rfl ?_
  refine r_getR hK d_X11_stuff_1 fl_RX11_37_10 rfl kd_0 ?_
  refine r_ref (b := 7) R0_0_3 ?_
  refine r_iload_n hK d_X11_stuff_4 rfl rfl ?_
  refine r_callV (As := [.int x1]) (st := []) (stk2 := [.int 1]) hK (C_X9_has kd_7 h1) d_X11_stuff_5 mf_X9_has ml_RX11_143 im_X9_has rfl se_8_RX9_X9_has kd_7 rfl (Nat.le_of_ble_eq_true rfl) (by decide) ⟨Nat.zero_le _, Nat.zero_le _⟩ rfl rfl ?_
  refine r_if_eq (tgt := 20) hK d_X11_stuff_8 (by decide) (fun h => absurd h z10) (fun _ => ?_)
  refine r_iload_n hK d_X11_stuff_11 rfl rfl ?_
  refine r_iconst hK d_X11_stuff_12 ci_0 ?_
  refine r_iconst hK d_X11_stuff_13 ci_4 ?_
  refine r_callS (As := [.int x2, .int (0 : Int32), .int (4 : Int32)]) (st := []) (stk2 := [.int 1]) hK (C_X11_within h2) d_X11_stuff_14 mf_X11_within ml_RX11_123 ss_X11_within rfl (Nat.le_of_ble_eq_true rfl) (by decide) ⟨Nat.zero_le _, Nat.zero_le _⟩ rfl rfl ?_
  refine r_if_ne (tgt := 28) hK d_X11_stuff_17 (by decide) (fun _ => ?_) (fun h => absurd h z10)
  refine r_aload_n hK d_X11_stuff_28 rfl rfl ?_
  refine r_getR hK d_X11_stuff_29 fl_RX11_37_10 rfl kd_0 ?_
  refine r_ref (b := 7) R0_0_3 ?_
  refine r_iload_n hK d_X11_stuff_32 rfl rfl ?_
  refine r_iconst hK d_X11_stuff_33 ci_0 ?_
  refine r_iload_n hK d_X11_stuff_34 rfl rfl ?_
  refine r_callV (As := [.int x1, .int 0, .int x2]) (st := []) (stk2 := [.int v]) hK (C_X9_number kd_7 h3) d_X11_stuff_35 mf_X9_number ml_RX11_150 im_X9_number rfl se_8_RX9_X9_number kd_7 rfl (Nat.le_of_ble_eq_true rfl) (by decide) ⟨Nat.zero_le _, Nat.zero_le _⟩ rfl rfl ?_
  exact r_iret hK d_X11_stuff_38
end S_X11_stuff
