/-! stuff, where it throws; the law's own stuff, that catches it -/
def STX (ad : Nat → Nat) (g : va_G) (tyc : Nat → ClassId) (μ : gs_M) : String → State → State → Prop := fun E st t => E = gs_NE ∧ va_P g vwCl (gs_ws ad tyc μ) t.heap ∧ va_F (gs_A ad) st t
section S_throw
variable {l : Launch} {ad : Nat → Nat} {g : va_G} {tyc : Nat → ClassId}
set_option maxRecDepth 20000 in
theorem X_X11_stuff (hst : l.stackTraces = false) {x1 x2 : Int32} {μ : gs_M} (h : D_X9_has 7 x1 μ = some (0, μ) ∨ (D_X9_has 7 x1 μ = some (1, μ) ∧ D_X11_within x2 0 4 μ = some (0, μ))) : vx_Met l yX11_stuff (Cond.code yX11_stuff cX11_stuff 3 (some .int) :: gs_tbl) (gs_rmX 20) (gs_PcX ad g tyc [.ref 0, .int x1, .int x2] μ) (fun _ _ _ _ => False) (STX ad g tyc μ) 1 6 (gs_A ad) := by
  refine vx_ofW (cc := cX11_stuff) (maxL := 3) (ret := some .int) (by decide) rfl ?_
  intro p e s m args below meth c s₁ B hml htab hv
  obtain ⟨hargs, hP, hW, hTH⟩ := hv
  have hts := atoms_spec (ws := Cond.code yX11_stuff cX11_stuff 3 (some .int) :: gs_tbl) B.pre
  have hown : s.vm.findClass RX11 = some m.cls := findClass_of_methodNamed B.named
  have ht : ∀ w ∈ gs_tbl, w.before args s = true := fun w hw => hts w (List.mem_cons_of_mem _ hw)
  have hK : KC p (headSpec (Cond.code yX11_stuff cX11_stuff 3 (some .int) :: gs_tbl) (gs_rmX 20)).room s m args meth c ad g tyc RX11 cX11_stuff 3 (some .int) 20 := ⟨B.exec, B.bytes, B.returns, B.notSynchronized, hml, hown, ht, hW, Nat.le_refl _, Nat.le_refl _⟩
  have thr : WJ p l e (headSpec (Cond.code yX11_stuff cX11_stuff 3 (some .int) :: gs_tbl) (gs_rmX 20)).room s m args below meth c 0 0 (vx_MQ below (fun _ _ _ _ => False) (STX ad g tyc μ) args s 1 6 (gs_A ad)) ad g tyc 3 20 [.ref 0, .int x1, .int x2] [] μ := by
    intro H locs lr hP' hS hl
    refine vx_throw0 (own := "GrainShift") (cls := gs_NE) (names := gs_nmX) (ik := 147) (ic := 149) (A := gs_A ad) B.exec B.bytes hst hown (by decide) (by decide) (ht _ cl_147) (ht _ in_NE) (fun w hw => ?_) gs_ato hTH.2.1 hTH.2.2 hS (hl.1.trans hml.symm) d_X11_stuff_20.1 d_X11_stuff_23.1 d_X11_stuff_24.1 d_X11_stuff_27.1 (fun x hx => (htab x hx).elim) (by show 2 + 3 < 20; omega) (by show 0 + (13 * (2 + 1) + 42) ≤ 20 * 64; omega) (Nat.le_refl _) (Nat.le_refl _) B.notSynchronized (fun t _ hz hk => ⟨rfl, hP'.kept (fun k q hq => hk q.1 (hP' k q hq).lt), Nat.le_trans hS.1 hz, fun q q1 q2 => (hk q (Nat.lt_of_lt_of_le q1 hS.1)).trans (hS.2.1 q q1 q2)⟩) hS.2.2 (Nat.le_refl _) (Nat.le_refl _)
    rcases gs_atm w hw with h | h
    · exact ht w h
    · exact va_Nw.use (gs_ngo w h) (hTH.1 w h)
  have body : WJ p l e (headSpec (Cond.code yX11_stuff cX11_stuff 3 (some .int) :: gs_tbl) (gs_rmX 20)).room s m args below meth c 0 0 (vx_MQ below (fun _ _ _ _ => False) (STX ad g tyc μ) args s 1 6 (gs_A ad)) ad g tyc 3 0 [.ref 0, .int x1, .int x2] [] μ := by
    refine r_aload_n hK d_X11_stuff_0 rfl rfl ?_
    refine r_getR hK d_X11_stuff_1 fl_RX11_37_10 rfl kd_0 ?_
    refine r_ref (b := 7) R0_0_3 ?_
    refine r_iload_n hK d_X11_stuff_4 rfl rfl ?_
    rcases h with h1 | ⟨h1, h2⟩
    · refine r_callV (As := [.int x1]) (st := []) (stk2 := [.int 0]) hK (C_X9_has kd_7 h1) d_X11_stuff_5 mf_X9_has ml_RX11_143 im_X9_has rfl se_8_RX9_X9_has kd_7 rfl (Nat.le_of_ble_eq_true rfl) (by decide) ⟨Nat.zero_le _, Nat.zero_le _⟩ rfl rfl ?_
      exact r_if_eq (tgt := 20) hK d_X11_stuff_8 (by decide) (fun _ => thr) (fun h => absurd rfl h)
    · refine r_callV (As := [.int x1]) (st := []) (stk2 := [.int 1]) hK (C_X9_has kd_7 h1) d_X11_stuff_5 mf_X9_has ml_RX11_143 im_X9_has rfl se_8_RX9_X9_has kd_7 rfl (Nat.le_of_ble_eq_true rfl) (by decide) ⟨Nat.zero_le _, Nat.zero_le _⟩ rfl rfl ?_
      refine r_if_eq (tgt := 20) hK d_X11_stuff_8 (by decide) (fun h => absurd h z10) (fun _ => ?_)
      refine r_iload_n hK d_X11_stuff_11 rfl rfl ?_
      refine r_iconst hK d_X11_stuff_12 ci_0 ?_
      refine r_iconst hK d_X11_stuff_13 ci_4 ?_
      refine r_callS (As := [.int x2, .int (0 : Int32), .int (4 : Int32)]) (st := []) (stk2 := [.int 0]) hK (C_X11_within h2) d_X11_stuff_14 mf_X11_within ml_RX11_123 ss_X11_within rfl (Nat.le_of_ble_eq_true rfl) (by decide) ⟨Nat.zero_le _, Nat.zero_le _⟩ rfl rfl ?_
      exact r_if_ne (tgt := 28) hK d_X11_stuff_17 (by decide) (fun h => absurd rfl h) (fun _ => thr)
  have h := body s.heap [] _ hP va_S.rf (gs_entry ad [.ref 0, .int x1, .int x2] (nL := 3) (ls := [.ref 0, .int x1, .int x2]) (Nat.le_of_ble_eq_true rfl) rfl)
  subst hargs
  rw [lg_entry_eq]
  exact h
end S_throw
section GSLL
variable {p : Program} {l : Launch} {e : Env} {R : Room} {s : State} {m : MethodId} {args : Array Value} {below : List Frame} {meth : Method} {c : Code} {cells slots : Nat} {Q : State → Prop}
variable {ad : Nat → Nat} {g : va_G} {tyc : Nat → ClassId} {own : String} {cc : ByteArray} {nL : Nat} {ret : Option FieldType} {d : Nat}
variable {pc pc2 : Nat} {ls : List Value} {st : List Value} {μ : gs_M}
theorem r_lald (hK : KC p R s m args meth c ad g tyc own cc nL ret d) {a n : Nat} {i : Int32} (hd : gd cc pc .laload 1 pc2) (ha : kd a = 22) (hn : ln a = n) (hi : vp_in i n) (kk : WJ p l e R s m args below meth c cells slots Q ad g tyc nL pc2 ls (.long (gL μ a i.toNatClampNeg) :: st) μ) : WJ p l e R s m args below meth c cells slots Q ad g tyc nL pc ls (.int i :: .ref a :: st) μ := by
  obtain ⟨hd, rfl⟩ := hd
  subst hn
  obtain ⟨hx, hb, -, -, -, -, -, hW, -⟩ := hK
  exact fun H locs lr hP hS hl => va_lald hx hb hW.1 hP a 2 (gs_a22 ha) rfl hi hd (kk H locs lr hP hS hl)
theorem r_last (hK : KC p R s m args meth c ad g tyc own cc nL ret d) {a n : Nat} {i : Int32} {x : Int64} (hd : gd cc pc .lastore 1 pc2) (ha : kd a = 22) (hn : ln a = n) (hi : vp_in i n) (kk : WJ p l e R s m args below meth c cells slots Q ad g tyc nL pc2 ls (st) (sL μ a i.toNatClampNeg x)) : WJ p l e R s m args below meth c cells slots Q ad g tyc nL pc ls (.long x :: .int i :: .ref a :: st) μ := by
  obtain ⟨hd, rfl⟩ := hd
  subst hn
  obtain ⟨hx, hb, -, -, -, -, -, hW, -⟩ := hK
  refine fun H locs lr hP hS hl => va_last hx hb hW.1 hP (gs_D hW.2.2.2.1) hS a 2 (gs_a22 ha) rfl hi hd (fun H1 locs1 hP1 _ hS1 => kk H1 locs1 lr ?_ hS1 hl)
  rw [show (Sum.inl (tyc 2, ln a, Sum.inr (Sum.inl (vp_updL (μ.2 a) i.toNatClampNeg x))) : va_E) = gs_cell ad tyc (sL μ a i.toNatClampNeg x) a by rw [gs_c22 ha]; show _ = (Sum.inl (tyc 2, ln a, Sum.inr (Sum.inl (if a = a then vp_updL (μ.2 a) i.toNatClampNeg x else μ.2 a))) : va_E); rw [if_pos rfl], gs_set (μ := μ) (μ' := sL μ a i.toNatClampNeg x) (kd_lt (by rw [ha]; decide)) (fun _ _ => rfl) gs_s2] at hP1
  exact hP1
theorem WJ.lax {ls ls' : List Value} (h : ∀ (i : Nat) (v : Value), ls'[i]? = some v → v ≠ gs_J → ls[i]? = some v) (k : WJ p l e R s m args below meth c cells slots Q ad g tyc nL pc ls' st μ) : WJ p l e R s m args below meth c cells slots Q ad g tyc nL pc ls st μ :=
  fun H locs lr hP hS hl => k H locs lr hP hS ⟨hl.1, hl.2.1, fun i v h1 h2 => hl.2.2 i v (h i v h1 h2) h2⟩
end GSLL
def yL_stuff : MethodName := ⟨"GrainShiftLaw", "stuff", "(LGrainShift;II[J)I"⟩
def gs_hh : List (Nat × Nat × Nat × Nat) := [(0, 10, 13, 13)]
theorem cw_L_stuff : Cond.codeWith yL_stuff method_3_code 5 (some .int) gs_hh ∈ gs_tbl := gs_t 1044 (by decide +kernel) (by decide +kernel)
theorem ml_L_38 : Cond.methodLink "GrainShiftLaw" 38 yL_stuff ∈ gs_tbl := gs_t 1042 (by decide +kernel) (by decide +kernel)
theorem ss_L_stuff : Cond.static yL_stuff ∈ gs_tbl := gs_t 1043 (by decide +kernel) (by decide +kernel)
theorem in_L : Cond.initialized "GrainShiftLaw" ∈ gs_tbl := gs_t 0 (by decide +kernel) (by decide +kernel)
theorem cl_L_13 : Cond.classLink "GrainShiftLaw" 13 gs_NE ∈ gs_tbl := gs_t 1045 (by decide +kernel) (by decide +kernel)
theorem d_ls_0 : gd method_3_code 0 (.aload_n 3) 1 1 := ⟨by decide +kernel, rfl⟩
theorem d_ls_1 : gd method_3_code 1 (.iconst 0) 1 2 := ⟨by decide +kernel, rfl⟩
theorem d_ls_2 : gd method_3_code 2 (.aload_n 0) 1 3 := ⟨by decide +kernel, rfl⟩
theorem d_ls_3 : gd method_3_code 3 (.iload_n 1) 1 4 := ⟨by decide +kernel, rfl⟩
theorem d_ls_4 : gd method_3_code 4 (.iload_n 2) 1 5 := ⟨by decide +kernel, rfl⟩
theorem d_ls_5 : gd method_3_code 5 (.invokevirtual 7) 3 8 := ⟨by decide +kernel, rfl⟩
theorem d_ls_8 : gd method_3_code 8 .i2l 1 9 := ⟨by decide +kernel, rfl⟩
theorem d_ls_9 : gd method_3_code 9 .lastore 1 10 := ⟨by decide +kernel, rfl⟩
theorem d_ls_10 : gd method_3_code 10 (.goto 7) 3 13 := ⟨by decide +kernel, rfl⟩
theorem d_ls_13 : gd method_3_code 13 (.astore 4) 2 15 := ⟨by decide +kernel, rfl⟩
theorem d_ls_15 : gd method_3_code 15 (.iconst 1) 1 16 := ⟨by decide +kernel, rfl⟩
theorem d_ls_16 : gd method_3_code 16 .ireturn 1 17 := ⟨by decide +kernel, rfl⟩
theorem d_ls_17 : gd method_3_code 17 (.iconst 0) 1 18 := ⟨by decide +kernel, rfl⟩
theorem d_ls_18 : gd method_3_code 18 .ireturn 1 19 := ⟨by decide +kernel, rfl⟩
section S_lstuff
variable {l : Launch} {ad : Nat → Nat} {g : va_G} {tyc : Nat → ClassId}
set_option maxRecDepth 20000 in
/-- the law's stuff, where the class's returns -/
theorem M_L_stuff {x1 x2 v : Int32} {μ : gs_M} (h1 : D_X9_has 7 x1 μ = some (1, μ)) (h2 : D_X11_within x2 0 4 μ = some (1, μ)) (h3 : D_X9_number 7 x1 0 x2 μ = some (v, μ)) : Met l yL_stuff (Cond.codeWith yL_stuff method_3_code 5 (some .int) gs_hh :: gs_tbl) (gs_rm 10) (gs_Pc ad g tyc [.ref 0, .int x1, .int x2, .ref 98] μ) (gs_Q ad g tyc (some (.int 0)) (sL μ 98 0 (Int32.toInt64 v))) 0 0 (gs_A ad) := by
  refine va_MetW (cc := method_3_code) (maxL := 5) (ret := some .int) (hh := gs_hh) (by decide) rfl ?_
  intro p e s m args below meth c s₁ B hml hv
  obtain ⟨hargs, hP, hW⟩ := hv
  have hts := atoms_spec (ws := Cond.codeWith yL_stuff method_3_code 5 (some .int) gs_hh :: gs_tbl) B.pre
  have hown : s.vm.findClass "GrainShiftLaw" = some m.cls := findClass_of_methodNamed B.named
  have hK : KC p (headSpec (Cond.codeWith yL_stuff method_3_code 5 (some .int) gs_hh :: gs_tbl) (gs_rm 10)).room s m args meth c ad g tyc "GrainShiftLaw" method_3_code 5 (some .int) 10 := ⟨B.exec, B.bytes, B.returns, B.notSynchronized, hml, hown, fun w hw => hts w (List.mem_cons_of_mem _ hw), hW, Nat.le_refl _, Nat.le_refl _⟩
  have body : WJ p l e (headSpec (Cond.codeWith yL_stuff method_3_code 5 (some .int) gs_hh :: gs_tbl) (gs_rm 10)).room s m args below meth c 0 0 (MQ below (gs_Q ad g tyc (some (.int 0)) (sL μ 98 0 (Int32.toInt64 v))) args s 0 0 (gs_A ad)) ad g tyc 5 0 [.ref 0, .int x1, .int x2, .ref 98, gs_J] [] μ := by
    refine r_aload_n hK d_ls_0 rfl rfl ?_
    refine r_iconst hK d_ls_1 ci_0 ?_
    refine r_aload_n hK d_ls_2 rfl rfl ?_
    refine r_iload_n hK d_ls_3 rfl rfl ?_
    refine r_iload_n hK d_ls_4 rfl rfl ?_
    refine r_callV (As := [.int x1, .int x2]) (st := [.int 0, .ref 98]) (stk2 := [.int v, .int 0, .ref 98]) hK (C_X11_stuff h1 h2 h3) d_ls_5 mf_X11_stuff ml_L_7 im_X11_stuff rfl se_X11_stuff kd_0 rfl (Nat.le_of_ble_eq_true rfl) (by decide) ⟨Nat.zero_le _, Nat.zero_le _⟩ rfl rfl ?_
    refine r_i2l hK d_ls_8 ?_
    refine r_last hK d_ls_9 kd_98 (n := 1) (by decide +kernel) (vp_in_nI (n := 0) (by decide) (by decide)) ?_
    refine r_goto (tgt := 17) hK d_ls_10 (by decide) ?_
    refine r_iconst hK d_ls_17 ci_0 ?_
    exact r_iret hK d_ls_18
  have h := body s.heap [] _ hP va_S.rf (gs_entry ad [.ref 0, .int x1, .int x2, .ref 98] (nL := 5) (ls := [.ref 0, .int x1, .int x2, .ref 98, gs_J]) (Nat.le_of_ble_eq_true rfl) rfl)
  subst hargs
  rw [lg_entry_eq]
  exact h
set_option maxRecDepth 20000 in
/-- the law's stuff, where the class's throws -/
theorem M_L_stuffX (hst : l.stackTraces = false) {x1 x2 : Int32} {μ : gs_M} (h : D_X9_has 7 x1 μ = some (0, μ) ∨ (D_X9_has 7 x1 μ = some (1, μ) ∧ D_X11_within x2 0 4 μ = some (0, μ))) : Met l yL_stuff (Cond.codeWith yL_stuff method_3_code 5 (some .int) gs_hh :: gs_tbl) (gs_rmX 30) (gs_PcX ad g tyc [.ref 0, .int x1, .int x2, .ref 98] μ) (gs_Q ad g tyc (some (.int 1)) μ) 1 6 (gs_A ad) := by
  refine va_MetW (cc := method_3_code) (maxL := 5) (ret := some .int) (hh := gs_hh) (by decide) rfl ?_
  intro p e s m args below meth c s₁ B hml hv
  obtain ⟨hargs, hP, hW, hTH⟩ := hv
  have hts := atoms_spec (ws := Cond.codeWith yL_stuff method_3_code 5 (some .int) gs_hh :: gs_tbl) B.pre
  have hown : s.vm.findClass "GrainShiftLaw" = some m.cls := findClass_of_methodNamed B.named
  have ht : ∀ w ∈ gs_tbl, w.before args s = true := fun w hw => hts w (List.mem_cons_of_mem _ hw)
  have hK : KC p (headSpec (Cond.codeWith yL_stuff method_3_code 5 (some .int) gs_hh :: gs_tbl) (gs_rmX 30)).room s m args meth c ad g tyc "GrainShiftLaw" method_3_code 5 (some .int) 30 := ⟨B.exec, B.bytes, B.returns, B.notSynchronized, hml, hown, ht, hW, Nat.le_refl _, Nat.le_refl _⟩
  have htb : c.exceptionTable.toList = tableOf gs_hh := vx_table (x := yL_stuff) B (hts _ List.mem_cons_self)
  have body : WJ p l e (headSpec (Cond.codeWith yL_stuff method_3_code 5 (some .int) gs_hh :: gs_tbl) (gs_rmX 30)).room s m args below meth c 0 0 (MQ below (gs_Q ad g tyc (some (.int 1)) μ) args s 1 6 (gs_A ad)) ad g tyc 5 0 [.ref 0, .int x1, .int x2, .ref 98, gs_J] [] μ := by
    refine r_aload_n hK d_ls_0 rfl rfl ?_
    refine r_iconst hK d_ls_1 ci_0 ?_
    refine r_aload_n hK d_ls_2 rfl rfl ?_
    refine r_iload_n hK d_ls_3 rfl rfl ?_
    refine r_iload_n hK d_ls_4 rfl rfl ?_
    intro H locs lr hP' hS hl
    obtain ⟨f1, f2, f3, f4, f5, f6, f7⟩ := mf_X11_stuff
    have he := gs_get (ad := ad) (tyc := tyc) (μ := μ) (show 0 < 99 by decide)
    rw [gs_obj kd_0 (by decide)] at he
    have run := vx_runV (p := p) (e := e) (R := (headSpec (Cond.codeWith yL_stuff method_3_code 5 (some .int) gs_hh :: gs_tbl) (gs_rmX 30)).room) (below := below) (meth := meth) (locs := locs) (cells := 0) (slots := 0) (As := [.int x1, .int x2]) (b := ad 0) (rest := [.int 0, .ref (ad 98)]) (cc := method_3_code) (nL := 5) (Ts := gs_tbl) (own := "GrainShiftLaw") (C := RX11) (index := 7) (n := 2) (bytes := cX11_stuff) (maxL := 3) (ret := some .int) (g := F0 m 5 lr [.int x2, .int x1, .ref (ad 0), .int 0, .ref (ad 98)]) ⟨B.exec, B.bytes, hml, hown, ht⟩ (X_X11_stuff (ad := ad) (g := g) (tyc := tyc) hst h) ⟨callB_of 2 ht (gs_goodc f1) rfl rfl rfl (ht _ f2) (ht _ ml_L_7) ⟨f3, f4, f5⟩ ⟨by show 20 + 1 ≤ 30; omega, by show 8 + (3 + 11) + 20 * 64 ≤ 30 * 64; omega⟩, ht _ im_X11_stuff, ht _ se_X11_stuff⟩ ⟨gs_blindX, va_recv hW.1 hP' (show vwCl[10]? = some (RX11, TX11, 20) from rfl) he, fun U hU hWw => ⟨rfl, by rw [hU]; exact hP', hW.go hS hU hWw, hTH.go hS hU hWw⟩⟩ rfl rfl hl.1 rfl (Nat.le_of_ble_eq_true rfl) d_ls_5.1 ⟨Nat.le_refl _, Nat.le_refl _⟩
    intro T hT X
    rcases run T hT X with ⟨v, st₀, t, T', L, h0, X', hL, e1, e2, hq, stp⟩ | ⟨q, st₀, t, T', L, E, ce, h0, X', hL, e1, e2, ⟨hE, hP1, hz, hk⟩, hce, hcv, hcl, stp⟩
    · exact hq.elim
    · subst hE
      rw [h0] at hz hk
      have hS1 : va_S (gs_A ad) s.heap T'.heap (locs ++ L) := ⟨Nat.le_trans hS.1 (by rw [e1]; exact hz), fun q h1 h2 => by rw [e1, hk q (Nat.lt_of_lt_of_le h1 hS.1) h2]; exact hS.2.1 q h1 h2, fun q hq => by
        rcases List.mem_append.mp hq with h | h
        · exact hS.2.2 q h
        · exact hL q h⟩
      have kk : W p l e (headSpec (Cond.codeWith yL_stuff method_3_code 5 (some .int) gs_hh :: gs_tbl) (gs_rmX 30)).room s m args below meth c T'.heap (locs ++ L) (0 + 1) (0 + 6) (MQ below (gs_Q ad g tyc (some (.int 1)) μ) args s 1 6 (gs_A ad)) (F0 m 13 lr [.ref q]) := by
        refine lv_astore B.exec B.bytes d_ls_13.1 hl.has (by decide) rfl (fun ls' _ => ?_)
        refine lv_iconst B.exec B.bytes d_ls_15.1 ci_1 ?_
        exact W.iret B.exec B.bytes B.returns (fun t' ht' _ => ⟨rfl, by rw [ht', e1]; exact hP1, hS1.F ht'⟩) hS1.2.2 d_ls_16.1 B.notSynchronized
      have ct := vx_catch (own := "GrainShiftLaw") (name := gs_NE) (E := gs_NE) (pc := 5) (rest := [.int 0, .ref (ad 98)]) (ls := lr) hown [] ⟨0, 10, 13, 13⟩ [] (by rw [htb]; rfl) (fun z hz => nomatch hz) (by decide) (by decide) (ht _ cl_L_13) (va_Nw.use rfl (hTH.1 _ (by decide))) (by rw [e1]; exact hce) hcv hcl kk
      obtain ⟨t2, a1, b1⟩ := ct T' rfl X'
      exact ⟨t2, stp.trans a1, b1⟩
  have h := body s.heap [] _ hP va_S.rf (gs_entry ad [.ref 0, .int x1, .int x2, .ref 98] (nL := 5) (ls := [.ref 0, .int x1, .int x2, .ref 98, gs_J]) (Nat.le_of_ble_eq_true rfl) rfl)
  subst hargs
  rw [lg_entry_eq]
  exact h
end S_lstuff
