/-! the law's case of stuff -/
theorem Rel.g {i : Nat} {μ μ' : gs_M} (h : Rel i μ) (h1 : ∀ b, b ≠ 78 → μ'.1 b = μ.1 b) (h2 : ∀ j, j ≠ 0 → μ'.1 78 j = μ.1 78 j) (h3 : ∀ b, b ≠ 98 → μ'.2 b = μ.2 b) : Rel (i + 8) μ' := by
  refine RT.go h (by omega) ⟨fun b hb => h1 b (by omega), by rw [h1 16 (by decide)], h3 26 (by decide), h3 36 (by decide)⟩ ⟨fun b hb => h1 b (by omega), fun j _ => by rw [h1 89 (by decide)], fun j hj => h2 j (by omega), by rw [h3 78 (by decide)], by rw [h3 78 (by decide)]⟩
theorem im_X12_stuff : Cond.instanceMethod yX12_stuff ∈ gs_tbl := gs_t 1481 (by decide +kernel) (by decide +kernel)
theorem se_X12_stuff : Cond.selects RX12 yX12_stuff yX12_stuff ∈ gs_tbl := gs_t 1482 (by decide +kernel) (by decide +kernel)
theorem ml_L_43 : Cond.methodLink "GrainShiftLaw" 43 yX12_stuff ∈ gs_tbl := gs_t 1480 (by decide +kernel) (by decide +kernel)
theorem im_X12_thrown : Cond.instanceMethod yX12_thrown ∈ gs_tbl := gs_t 1283 (by decide +kernel) (by decide +kernel)
theorem se_X12_thrown : Cond.selects RX12 yX12_thrown yX12_thrown ∈ gs_tbl := gs_t 1284 (by decide +kernel) (by decide +kernel)
theorem ml_L_44 : Cond.methodLink "GrainShiftLaw" 44 yX12_thrown ∈ gs_tbl := gs_t 1282 (by decide +kernel) (by decide +kernel)
theorem gs_gw : GoodIn gs_tbl (va_wsS "GrainShiftLaw" 38 yL_stuff (Cond.codeWith yL_stuff method_3_code 5 (some .int) gs_hh :: gs_tbl)) := gs_sub (fun w hw => by
  unfold va_wsS at hw
  rcases List.mem_append.mp hw with h | h
  · simp only [List.mem_cons, List.not_mem_nil, or_false] at h
    rcases h with rfl | rfl | rfl
    · exact ml_L_38
    · exact ss_L_stuff
    · exact in_L
  · rcases List.mem_cons.mp h with rfl | h
    · exact cw_L_stuff
    · exact h)
section GSLZ
variable {p : Program} {l : Launch} {e : Env} {R : Room} {s : State} {m : MethodId} {args : Array Value} {below : List Frame} {meth : Method} {c : Code} {cells slots : Nat} {Q : State → Prop}
variable {ad : Nat → Nat} {g : va_G} {tyc : Nat → ClassId} {nL : Nat} {pc : Nat} {ls : List Value} {L : Nat} {xs : Nat → Int32}
theorem gs_afterX {o : Option Value} {μ1 : gs_M} {rest : List Value} {H : Heap} {locs : List Loc} {lr : Array Slot} {a : Array Value} {stk : List Value} {mc ms : Nat} (hS : va_S (gs_A ad) s.heap H locs) (hl : gs_LR ad nL lr ls)
    (run : va_Run p l e R s m args below meth c H locs cells slots mc ms (F0 m pc lr stk) (rest.map (vr ad)) (gs_Q ad g tyc o μ1 a) (gs_A ad)) (kk : WJ p l e R s m args below meth c (cells + mc) (slots + ms) Q ad g tyc nL (pc + 3) ls (o.toList ++ rest) μ1) : W p l e R s m args below meth c H locs cells slots Q (F0 m pc lr stk) := by
  intro T hT X
  obtain ⟨v, st₀, t, T', L, h0, X', hL, e1, e2, ⟨ho, hP1, hz, hk⟩, stp⟩ := run T hT X
  cases ho
  rw [h0] at hz hk
  obtain ⟨t2, a1, b1⟩ := kk T'.heap (locs ++ L) lr (by rw [e1]; exact hP1)
    ⟨Nat.le_trans hS.1 (by rw [e1]; exact hz), fun q h1 h2 => by rw [e1, hk q (Nat.lt_of_lt_of_le h1 hS.1) h2]; exact hS.2.1 q h1 h2, fun q hq => by
      rcases List.mem_append.mp hq with h | h
      · exact hS.2.2 q h
      · exact hL q h⟩ hl T' rfl X'
  refine ⟨t2, stp t2 ?_, b1⟩
  cases o with
  | none => exact a1
  | some v => exact a1
theorem ps_lax {i : Nat} {k r : Int32} : ∀ (j : Nat) (v : Value), (gs_pst i)[j]? = some v → v ≠ gs_J → ([.ref 118, .ref 0, .ref 78, .ref 98, .int (nI i), .int k, .int r] : List Value)[j]? = some v := by
  intro j v hv hn
  match j, hv with
  | 0, hv => exact hv
  | 1, hv => exact hv
  | 2, hv => exact hv
  | 3, hv => exact hv
  | 4, hv => exact hv
  | 5, hv => cases hv; exact absurd rfl hn
  | 6, hv => cases hv; exact absurd rfl hn
  | j + 7, hv => cases hv
set_option maxHeartbeats 4000000 in
set_option maxRecDepth 20000 in
theorem stuff_H (hst : l.stackTraces = false) (hK : KC p room_1 s m #[Value.ref (ad 118)] meth c ad g tyc "GrainShiftLaw" code 7 ret 1000) (hX : va_X (ad 118) L xs s s.heap) (hbl : ad 118 < s.heap.size) (had : ∀ k, k < 99 → ad k = s.heap.size + k) (hL : L ≤ 4096) (hTH : gs_TH ad s) : gs_stuffH p l e s m below meth c ad g tyc L Rel := by
  intro i μ cells slots hi hR hc hs inc
  obtain ⟨x1, hx1⟩ : ∃ x1, x1 = xs (nI i + 1).toNatClampNeg := ⟨_, rfl⟩
  obtain ⟨x2, hx2⟩ : ∃ x2, x2 = xs (nI i + 2).toNatClampNeg := ⟨_, rfl⟩
  have tail : ∀ (k r : Int32) (μ1 μ2 : gs_M) (c2 s2 : Nat), D_X12_stuff x1 x2 μ1 = some (r, μ2) → gI μ2 78 0 = k → (k = 0 → gL μ2 98 0 = Int32.toInt64 r) → Rel (i + 8) μ2 → c2 ≤ cells + 1 → s2 ≤ slots + 6 → WJ p l e room_1 s m #[Value.ref (ad 118)] below meth c c2 s2 (lw_Z below #[Value.ref (ad 118)] s) ad g tyc 7 413 (gs_pst i) [.int k] μ1 := by
    intro k r μ1 μ2 c2 s2 e2 hk hk0 hR2 hc2 hs2
    have hcs : c2 ≤ room_1.cells ∧ s2 ≤ room_1.slots := ⟨(by show c2 ≤ 601024; omega), (by show s2 ≤ 7293034; omega)⟩
    have e3 : D_X12_thrown μ2 = some (k, μ2) := by
      unfold D_X12_thrown
      rw [hk]
    have fin : WJ p l e room_1 s m #[Value.ref (ad 118)] below meth c c2 s2 (lw_Z below #[Value.ref (ad 118)] s) ad g tyc 7 461 [.ref 118, .ref 0, .ref 78, .ref 98, .int (nI i), .int k, .int r] [] μ2 := by
      refine r_goto (tgt := 2187) hK d_law_461 (by decide) ?_
      exact WJ.lax ps_lax (inc μ2 c2 s2 hR2 hc2 hs2)
    refine r_istore hK d_law_413 (by decide) (ls2 := [.ref 118, .ref 0, .ref 78, .ref 98, .int (nI i), .int k, gs_J]) rfl ?_
    refine r_aload_n hK d_law_415 rfl rfl ?_
    refine r_aload_n hK d_law_416 rfl rfl ?_
    refine r_iload hK d_law_417 rfl ?_
    refine r_iconst hK d_law_419 ci_1 ?_
    refine r_iadd hK d_law_420 ?_
    refine r_sld hK hX hbl had (sl_in1 hi hL) d_law_421 ?_
    refine r_aload_n hK d_law_422 rfl rfl ?_
    refine r_iload hK d_law_423 rfl ?_
    refine r_iconst hK d_law_425 ci_2 ?_
    refine r_iadd hK d_law_426 ?_
    refine r_sld hK hX hbl had (sl_in2 hi hL) d_law_427 ?_
    rw [← hx1, ← hx2]
    refine r_callV (As := [.int x1, .int x2]) (st := []) (stk2 := [.int r]) hK (C_X12_stuff e2) d_law_428 mf_X12_stuff ml_L_43 im_X12_stuff rfl se_X12_stuff kd_78 rfl (Nat.le_of_ble_eq_true rfl) (by decide) hcs rfl rfl ?_
    refine r_istore hK d_law_431 (by decide) (ls2 := [.ref 118, .ref 0, .ref 78, .ref 98, .int (nI i), .int k, .int r]) rfl ?_
    refine r_aload_n hK d_law_433 rfl rfl ?_
    refine r_callV (As := []) (st := []) (stk2 := [.int k]) hK (C_X12_thrown e3) d_law_434 mf_X12_thrown ml_L_44 im_X12_thrown rfl se_X12_thrown kd_78 rfl (Nat.le_of_ble_eq_true rfl) (by decide) hcs rfl rfl ?_
    refine r_iload hK d_law_437 rfl ?_
    refine r_icmp_eq (tgt := 444) hK d_law_439 (by decide) (fun _ => ?_) (fun h => absurd rfl h)
    refine r_iload hK d_law_444 rfl ?_
    refine r_if_ne (tgt := 461) hK d_law_446 (by decide) (fun _ => fin) (fun h0 => ?_)
    refine r_aload_n hK d_law_449 rfl rfl ?_
    refine r_iconst hK d_law_450 ci_0 ?_
    refine r_lald hK d_law_451 kd_98 (n := 1) (by decide +kernel) (vp_in_nI (n := 0) (by decide) (by decide)) ?_
    refine r_iload hK d_law_452 rfl ?_
    refine r_i2l hK d_law_454 ?_
    refine r_lcmp hK d_law_455 ?_
    refine r_if_eq (tgt := 461) hK d_law_456 (by decide) (fun _ => fin) (fun h => absurd ?_ h)
    exact (lg_cmp_eq _ _).mpr (hk0 h0)
  refine r_aload_n hK d_law_396 rfl rfl ?_
  refine r_aload_n hK d_law_397 rfl rfl ?_
  refine r_iload hK d_law_398 rfl ?_
  refine r_iconst hK d_law_400 ci_1 ?_
  refine r_iadd hK d_law_401 ?_
  refine r_sld hK hX hbl had (sl_in1 hi hL) d_law_402 ?_
  refine r_aload_n hK d_law_403 rfl rfl ?_
  refine r_iload hK d_law_404 rfl ?_
  refine r_iconst hK d_law_406 ci_2 ?_
  refine r_iadd hK d_law_407 ?_
  refine r_sld hK hX hbl had (sl_in2 hi hL) d_law_408 ?_
  refine r_aload_n hK d_law_409 rfl rfl ?_
  rw [← hx1, ← hx2]
  obtain ⟨hx, hb, -, -, hml, hown, ht, hW, hf1, hf2⟩ := hK
  rcases stf_e hR x1 x2 with ⟨v, h1, h2, h3, h4⟩ | ⟨h1, h4⟩
  · have kk := tail 0 v (sL μ 98 0 (Int32.toInt64 v)) _ cells slots h4 (by rw [gI_d, sI_u]) (fun _ => by rw [gL_d, sI_L, sL_s, pk_uLs]) (hR.g (fun b hb => by rw [sI_n _ _ _ hb, sL_I]) (fun j hj => by rw [sI_o _ _ hj, sL_I]) (fun b hb => by rw [sI_L, sL_n _ _ _ hb])) (by omega) (by omega)
    intro H locs lr hP hS hl
    refine gs_afterX (o := some (.int 0)) (rest := []) (mc := 0) (ms := 0) hS hl (vx_runSW (As := [.ref (ad 0), .int x1, .int x2, .ref (ad 98)]) (rest := []) (cc := code) (nL := 7) (Ts := gs_tbl) (own := "GrainShiftLaw") (index := 38) (n := 4) (bytes := method_3_code) (maxL := 5) (ret := some .int) (hh := gs_hh) ⟨hx, hb, hml, hown, ht⟩ (M_L_stuff (l := l) (ad := ad) (g := g) (tyc := tyc) h1 h2 h3) (vx_cwSW 4 ht gs_gw rfl rfl rfl ⟨by decide, by decide, by decide +kernel⟩ ⟨by show 10 + 1 ≤ 2048; omega, by show 8 + (5 + 11) + 10 * 64 ≤ 84000; omega⟩) ⟨gs_blind, fun U hU hWw => ⟨rfl, by rw [hU]; exact hP, hW.go hS hU hWw⟩⟩ rfl rfl hl.1 rfl (Nat.le_of_ble_eq_true rfl) d_law_410.1 ⟨by show cells + 0 ≤ 601024; omega, by show slots + 0 ≤ 7293034; omega⟩) kk
  · have kk := tail 1 0 μ _ (cells + 1) (slots + 6) h4 (by rw [gI_d, sI_u]) (fun q => absurd q z10) (hR.g (fun b hb => by rw [sI_n _ _ _ hb]) (fun j hj => by rw [sI_o _ _ hj]) (fun b hb => by rw [sI_L])) (by omega) (by omega)
    intro H locs lr hP hS hl
    exact gs_afterX (o := some (.int 1)) (rest := []) (mc := 1) (ms := 6) hS hl (vx_runSW (As := [.ref (ad 0), .int x1, .int x2, .ref (ad 98)]) (rest := []) (cc := code) (nL := 7) (Ts := gs_tbl) (own := "GrainShiftLaw") (index := 38) (n := 4) (bytes := method_3_code) (maxL := 5) (ret := some .int) (hh := gs_hh) ⟨hx, hb, hml, hown, ht⟩ (M_L_stuffX (ad := ad) (g := g) (tyc := tyc) hst h1) (vx_cwSW 4 ht gs_gw rfl rfl rfl ⟨by decide, by decide, by decide +kernel⟩ ⟨by show 30 + 1 ≤ 2048; omega, by show 8 + (5 + 11) + 30 * 64 ≤ 84000; omega⟩) ⟨gs_blindX, fun U hU hWw => ⟨rfl, by rw [hU]; exact hP, hW.go hS hU hWw, hTH.go hS hU hWw⟩⟩ rfl rfl hl.1 rfl (Nat.le_of_ble_eq_true rfl) d_law_410.1 ⟨by show cells + 1 ≤ 601024; omega, by show slots + 6 ≤ 7293034; omega⟩) kk
end GSLZ
