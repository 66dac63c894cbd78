def gs_si : List Nat := [26, 32, 54, 56, 58]
theorem gsm_0 : ∀ j, j < 15 → Cond.eq (.elem (Term.static "GrainShift" "ITEM_LETTERS" "[C") (.int (Int32.ofNat j))) (.int (cA 0 j)) ∈ flatC (Jvm.Cond.and given_1 narrow_1) := by decide +kernel
theorem gsm_1 : ∀ j, j < 15 → Cond.eq (.elem (Term.static "GrainShift" "ITEM_LOWS" "[I") (.int (Int32.ofNat j))) (.int (cA 1 j)) ∈ flatC (Jvm.Cond.and given_1 narrow_1) := by decide +kernel
theorem gsm_2 : ∀ j, j < 15 → Cond.eq (.elem (Term.static "GrainShift" "ITEM_HIGHS" "[I") (.int (Int32.ofNat j))) (.int (cA 2 j)) ∈ flatC (Jvm.Cond.and given_1 narrow_1) := by decide +kernel
theorem gsm_3 : ∀ j, j < 15 → Cond.eq (.elem (Term.static "GrainShift" "ITEM_USUAL" "[I") (.int (Int32.ofNat j))) (.int (cA 3 j)) ∈ flatC (Jvm.Cond.and given_1 narrow_1) := by decide +kernel
theorem gsm_4 : ∀ j, j < 6 → Cond.eq (.elem (Term.static "GrainShift" "RULE_LETTERS" "[C") (.int (Int32.ofNat j))) (.int (cA 4 j)) ∈ flatC (Jvm.Cond.and given_1 narrow_1) := by decide +kernel
theorem gsk_1 : ∀ i, i < 5 → Cond.exactly (Term.string "GrainShiftModel" (gs_si.getD i 0)) "java/lang/String" ∈ flatC (Jvm.Cond.and given_1 narrow_1) := by decide +kernel
theorem gsk_2 : ∀ i, i < 5 → Cond.eq (.field (Term.string "GrainShiftModel" (gs_si.getD i 0)) "java/lang/String" "coder" "B") (.int 0) ∈ flatC (Jvm.Cond.and given_1 narrow_1) := by decide +kernel
theorem gsk_3 : ∀ i, i < 5 → Cond.arrayOf (.field (Term.string "GrainShiftModel" (gs_si.getD i 0)) "java/lang/String" "value" "[B") .byte ∈ flatC (Jvm.Cond.and given_1 narrow_1) := by decide +kernel
theorem gsk_4 : ∀ i, i < 5 → Cond.eq (.length (.field (Term.string "GrainShiftModel" (gs_si.getD i 0)) "java/lang/String" "value" "[B")) (.int (Int32.ofNat (gs_sl.getD i 0))) ∈ flatC (Jvm.Cond.and given_1 narrow_1) := by decide +kernel
theorem gsk_5 : ∀ i, i < 5 → ∀ j, j < gs_sl.getD i 0 → Cond.eq (.elem (.field (Term.string "GrainShiftModel" (gs_si.getD i 0)) "java/lang/String" "value" "[B") (.int (Int32.ofNat j))) (.int ((gs_sb.getD i []).getD j 0)) ∈ flatC (Jvm.Cond.and given_1 narrow_1) := by decide +kernel
theorem gsk_6 : ∀ i, i < 5 → ∀ j, j < 5 → i ≠ j → Cond.not (Cond.eq (Term.string "GrainShiftModel" (gs_si.getD i 0)) (Term.string "GrainShiftModel" (gs_si.getD j 0))) ∈ flatC (Jvm.Cond.and given_1 narrow_1) ∨ Cond.not (Cond.eq (Term.string "GrainShiftModel" (gs_si.getD j 0)) (Term.string "GrainShiftModel" (gs_si.getD i 0))) ∈ flatC (Jvm.Cond.and given_1 narrow_1) := by decide +kernel
theorem gs_zqof {C n d : String} {A : Nat → Prop} {U : State} {H : Heap} (h : va_Zq C n d A U H) : ∃ z : Nat, va_Z C n d .null A U H ∨ va_Z C n d (.ref z) A U H := by
  rcases h with h | ⟨t, h⟩
  · exact ⟨0, Or.inl h⟩
  · exact ⟨t, Or.inr h⟩
theorem gs_ac {s : State} {args : Array Value} {ty : FieldType} (h : (Cond.arrayClass ty).before args s = true) (hty : ty = .int ∨ ty = .byte ∨ ty = .long) : ∃ c : ClassId, ArrOfT s c ty ∧ va_RA s c ty := by
  obtain ⟨c, k, comp, h1, h2, h3⟩ := Cond.arrayClass_spec h
  refine ⟨c, fun n z => ⟨fun k h => (by cases h), k, h2, comp, h3⟩, ?_⟩
  rcases hty with rfl | rfl | rfl <;> exact h1
theorem gs_ao {s : State} {args : Array Value} {C : String} (h : (Cond.arrayOver (.object C)).before args s = true) : ∃ c : ClassId, ArrOfT s c (.object C) ∧ va_RA s c (.object C) := by
  obtain ⟨comp, c, k, h1, h2, h3, h4, h5⟩ := Cond.arrayOver_spec h
  exact ⟨c, fun n z => ⟨fun k h => (by cases h), k, h3, comp, h4⟩, k, comp, h3, h4, h1, h5⟩
theorem gs_aj {s : State} {args : Array Value} (h : (Cond.arrayOver (.array .int)).before args s = true) : ∃ c : ClassId, ArrOfT s c (.array .int) ∧ va_RA s c (.array .int) := by
  obtain ⟨comp, c, k, h1, h3, h4, h5⟩ := Cond.arrayOver_specA h
  exact ⟨c, fun n z => ⟨fun k h => (by cases h), k, h3, comp, h4⟩, h5⟩
/-! THE CLAIM OUT OF ONE WALK OF THE LAW'S BODY. Your part is whole_start (and what it stands on); all else here is the same for every law, but numbers. -/
def R_law : String := "GrainShiftLaw"
def lw_P (b : Addr) (xs : List Int32) (args : Array Value) (s : State) : Prop := args = #[.ref b] ∧ s.IntsAt b xs ∧ xs.length ≤ 4096 ∧ (Jvm.Cond.and given_1 narrow_1).before args s = true
def lw_Q (_ : Array Value) (s : State) (o : Outcome) (t : State) : Prop := o = .returned (some (.int 1)) ∧ Framed s o t [] 601024 7293034
def lw_Z (below : List Frame) (a : Array Value) (s : State) : State → Prop := fun t => ∃ o, t.status = .running ∧ Ended t below o ∧ lw_Q a s o t
/-- the law's own end, with 1 on the stack, nothing written that was there before, its room as the claim has it -/
theorem lw_ret {p : Program} {l : Launch} {e : Env} {s : State} {m : MethodId} {below : List Frame} {meth : Method} {c : Code} {b : Nat} (hx : p.tables.exec = Jvm.exec) (hb : c.code = code) (hr : meth.sig.returnType = ret) (hlocks : meth.locks = false) {pc : Nat} {H : Heap} {ls : Array Slot} (hdg : decode code pc = .ok (.ireturn, 1)) : W p l e room_1 s m #[Value.ref b] below meth c H [] 601024 7293034 (lw_Z below #[Value.ref b] s) (F0 m pc ls [.int 1]) := by
  intro T hT X
  obtain ⟨fs, hret, hrun, hended, hW, hframe⟩ := X.leave (v := some (.int 1)) (hlocks := hlocks) (fun h => by rw [hr] at h; cases h)
  have hmeth' : T.vm.method? m = some meth := X.method'
  refine ⟨T.setFrames fs, ?_, .returned (some (.int 1)), hrun, hended, rfl, ⟨_, rfl⟩, hW, hframe⟩
  jvm_step X.here [X.here.top, hx, hb, hdg, hmeth', hr, ret, narrow_b1]
  (try refine ⟨rfl, ?_⟩); (try refine ⟨rfl, ?_⟩)
  first | (intro acts; rw [hret _ acts rfl rfl rfl]) | rw [hret _ _ rfl rfl rfl]
  exact Steps.refl _
/-- what holds at the law's entry: the machine, the code, the tables' words (any of lw_tbl by 'hts w (by decide +kernel)'), the script of L ints xs at the cell b, what the Statement gives of the start (any of its parts by flat_of_before) -/
def lw_At (p : Program) (s : State) (m : MethodId) (meth : Method) (c : Code) (b L : Nat) (xs : Nat → Int32) : Prop :=
  p.tables.exec = Jvm.exec ∧ c.code = code ∧ meth.sig.returnType = ret ∧ c.maxLocals = 7 ∧ s.vm.findClass R_law = some m.cls ∧ (∀ w ∈ lw_tbl, w.before #[Value.ref b] s = true) ∧ va_X b L xs s s.heap ∧ b < s.heap.size ∧ meth.locks = false ∧ (Jvm.Cond.and given_1 narrow_1).before #[Value.ref b] s = true
theorem lw_in {w : Cond} (i : Nat) (h : tables_1[i]? = some w) : w ∈ lw_tbl := List.mem_append_right _ (List.mem_of_getElem? h)
def gs_nar : Cond := Jvm.Cond.and given_1 narrow_1
theorem gs_old {s : State} {b : Nat} (hts : ∀ w ∈ lw_tbl, w.before #[Value.ref b] s = true) (hgv : (Jvm.Cond.and given_1 narrow_1).before #[Value.ref b] s = true) : ∃ ad : Nat → Nat, (∀ k, k < 99 → ad k = s.heap.size + k) ∧ gs_Old ad s s.heap ∧ gs_VR ad s ∧ gs_VR5 ad s ∧ ad 118 = b := by
  have hs := flat_of_before _ hgv
  have hA : ∀ a : Nat, a < s.heap.size → ¬ (fun q : Nat => s.heap.size ≤ q) a := fun a h => Nat.not_le.mpr h
  obtain ⟨t0, ev0, hT0⟩ := va_Tof (tm := Term.static "GrainShift" "ITEM_LETTERS" "[C") (ty := .char) (N := 15) (f := fun i => .int (cA 0 i)) (by decide) (hs _ (by decide +kernel)) (va_eqt (z := 15) (hs _ (by decide +kernel))) (fun j hj => va_eqt (z := cA 0 j) (hs _ (gsm_0 j hj))) hA
  have hZ0 := va_Zof (hts (.laysStatic "GrainShift" "ITEM_LETTERS" "[C") (lw_in 521 (by decide +kernel))) (hts (.initialized "GrainShift") (lw_in 1 (by decide +kernel))) ev0 hA
  obtain ⟨t1, ev1, hT1⟩ := va_Tof (tm := Term.static "GrainShift" "ITEM_LOWS" "[I") (ty := .int) (N := 15) (f := fun i => .int (cA 1 i)) (by decide) (hs _ (by decide +kernel)) (va_eqt (z := 15) (hs _ (by decide +kernel))) (fun j hj => va_eqt (z := cA 1 j) (hs _ (gsm_1 j hj))) hA
  have hZ1 := va_Zof (hts (.laysStatic "GrainShift" "ITEM_LOWS" "[I") (lw_in 536 (by decide +kernel))) (hts (.initialized "GrainShift") (lw_in 1 (by decide +kernel))) ev1 hA
  obtain ⟨t2, ev2, hT2⟩ := va_Tof (tm := Term.static "GrainShift" "ITEM_HIGHS" "[I") (ty := .int) (N := 15) (f := fun i => .int (cA 2 i)) (by decide) (hs _ (by decide +kernel)) (va_eqt (z := 15) (hs _ (by decide +kernel))) (fun j hj => va_eqt (z := cA 2 j) (hs _ (gsm_2 j hj))) hA
  have hZ2 := va_Zof (hts (.laysStatic "GrainShift" "ITEM_HIGHS" "[I") (lw_in 538 (by decide +kernel))) (hts (.initialized "GrainShift") (lw_in 1 (by decide +kernel))) ev2 hA
  obtain ⟨t3, ev3, hT3⟩ := va_Tof (tm := Term.static "GrainShift" "ITEM_USUAL" "[I") (ty := .int) (N := 15) (f := fun i => .int (cA 3 i)) (by decide) (hs _ (by decide +kernel)) (va_eqt (z := 15) (hs _ (by decide +kernel))) (fun j hj => va_eqt (z := cA 3 j) (hs _ (gsm_3 j hj))) hA
  have hZ3 := va_Zof (hts (.laysStatic "GrainShift" "ITEM_USUAL" "[I") (lw_in 512 (by decide +kernel))) (hts (.initialized "GrainShift") (lw_in 1 (by decide +kernel))) ev3 hA
  obtain ⟨t4, ev4, hT4⟩ := va_Tof (tm := Term.static "GrainShift" "RULE_LETTERS" "[C") (ty := .char) (N := 6) (f := fun i => .int (cA 4 i)) (by decide) (hs _ (by decide +kernel)) (va_eqt (z := 6) (hs _ (by decide +kernel))) (fun j hj => va_eqt (z := cA 4 j) (hs _ (gsm_4 j hj))) hA
  have hZ4 := va_Zof (hts (.laysStatic "GrainShift" "RULE_LETTERS" "[C") (lw_in 125 (by decide +kernel))) (hts (.initialized "GrainShift") (lw_in 1 (by decide +kernel))) ev4 hA
  obtain ⟨aK, aV, hS9, hev⟩ := vk_Sof (N := 5) (tm := fun i => Term.string "GrainShiftModel" (gs_si.getD i 0)) (len := gs_sl) (byt := gs_sb) (by decide +kernel) (fun i hi => hs _ (gsk_1 i hi)) (fun i hi => hs _ (gsk_2 i hi)) (fun i hi => hs _ (gsk_3 i hi)) (fun i hi => hs _ (gsk_4 i hi)) (fun i hi j hj => hs _ (gsk_5 i hi j hj)) (fun i j hi hj hij => (gsk_6 i hi j hj hij).elim (fun q => Or.inl (hs _ q)) (fun q => Or.inr (hs _ q))) hA
  have hC := va_Zof (hts (.laysStatic "java/lang/String" "COMPACT_STRINGS" "Z") (lw_in 1336 (by decide +kernel))) (hts (.initialized "java/lang/String") (lw_in 14 (by decide +kernel))) (va_eqt (z := 1) (hs _ (by decide +kernel))) hA
  obtain ⟨z0, hq0⟩ := gs_zqof (va_Zqof (hts (.laysStatic "jdk/internal/util/Preconditions" "SIOOBE_FORMATTER" "Ljava/util/function/BiFunction;") (lw_in 1352 (by decide +kernel))) (hts (.initialized "jdk/internal/util/Preconditions") (lw_in 16 (by decide +kernel))) (hs _ (by decide +kernel)) hA)
  obtain ⟨z1, hq1⟩ := gs_zqof (va_Zqof (hts (.laysStatic "java/lang/Throwable" "UNASSIGNED_STACK" "[Ljava/lang/StackTraceElement;") (lw_in 1077 (by decide +kernel))) (hts (.initialized "java/lang/Throwable") (lw_in 19 (by decide +kernel))) (hs _ (by decide +kernel)) hA)
  obtain ⟨z2, hq2⟩ := gs_zqof (va_Zqof (hts (.laysStatic "java/lang/Throwable" "SUPPRESSED_SENTINEL" "Ljava/util/List;") (lw_in 1079 (by decide +kernel))) (hts (.initialized "java/lang/Throwable") (lw_in 19 (by decide +kernel))) (hs _ (by decide +kernel)) hA)
  obtain ⟨ad, had⟩ : ∃ ad : Nat → Nat, ad = fun k => if k < 99 then s.heap.size + k else if k < 105 then [t0, t1, t2, t3, t4].getD (k - 100) 0 else if k < 110 then aK (k - 105) else if k < 115 then aV (k - 110) else [z0, z1, z2, b].getD (k - 115) 0 := ⟨_, rfl⟩
  have hlo : ∀ k, k < 99 → ad k = s.heap.size + k := fun k hk => by rw [had]; exact if_pos hk
  have hAB : ∀ q, gs_A ad q → s.heap.size ≤ q := fun q ⟨a, ha, e⟩ => by rw [← e, hlo a ha]; omega
  have a0 : ad 100 = t0 := by rw [had]; rfl
  have a1 : ad 101 = t1 := by rw [had]; rfl
  have a2 : ad 102 = t2 := by rw [had]; rfl
  have a3 : ad 103 = t3 := by rw [had]; rfl
  have a4 : ad 104 = t4 := by rw [had]; rfl
  have aS : ∀ i, i < 5 → ad (105 + i) = aK i := fun i hi => by rw [had]; show (if 105 + i < 99 then _ else if 105 + i < 105 then _ else if 105 + i < 110 then aK (105 + i - 105) else _) = _; rw [if_neg (by omega), if_neg (by omega), if_pos (by omega), Nat.add_sub_cancel_left]
  have aW : ∀ i, i < 5 → ad (110 + i) = aV i := fun i hi => by rw [had]; show (if 110 + i < 99 then _ else if 110 + i < 105 then _ else if 110 + i < 110 then _ else if 110 + i < 115 then aV (110 + i - 110) else _) = _; rw [if_neg (by omega), if_neg (by omega), if_neg (by omega), if_pos (by omega), Nat.add_sub_cancel_left]
  have b0 : ad 115 = z0 := by rw [had]; rfl
  have b1 : ad 116 = z1 := by rw [had]; rfl
  have b2 : ad 117 = z2 := by rw [had]; rfl
  have b3 : ad 118 = b := by rw [had]; rfl
  have hS8 : vk_S 5 gs_sl gs_sb (fun i => ad (105 + i)) (fun i => ad (110 + i)) (gs_A ad) s s.heap := by
    have h := hS9.narrow hAB
    refine ⟨fun i hi => ?_, fun i j hi hj e => h.2 i j hi hj (by have e' : ad (105 + i) = ad (105 + j) := e; rw [aS i hi, aS j hj] at e'; exact e')⟩
    have h1 := h.1 i hi
    rw [← aS i hi, ← aW i hi] at h1
    exact h1
  have hR : ∀ i, i < 5 → (Term.string "GrainShiftModel" (gs_si.getD i 0)).eval #[Value.ref b] s none [] s = some (.ref (ad (105 + i))) := fun i hi => by rw [aS i hi]; exact hev i hi
  refine ⟨ad, hlo, ⟨⟨by show va_Z _ _ _ (.ref (ad 100)) _ _ _; rw [a0]; exact hZ0.narrow hAB, by show va_T _ (ad 100) _ _ _ _ _; rw [a0]; exact hT0.narrow hAB⟩, ⟨by show va_Z _ _ _ (.ref (ad 101)) _ _ _; rw [a1]; exact hZ1.narrow hAB, by show va_T _ (ad 101) _ _ _ _ _; rw [a1]; exact hT1.narrow hAB⟩, ⟨by show va_Z _ _ _ (.ref (ad 102)) _ _ _; rw [a2]; exact hZ2.narrow hAB, by show va_T _ (ad 102) _ _ _ _ _; rw [a2]; exact hT2.narrow hAB⟩, ⟨by show va_Z _ _ _ (.ref (ad 103)) _ _ _; rw [a3]; exact hZ3.narrow hAB, by show va_T _ (ad 103) _ _ _ _ _; rw [a3]; exact hT3.narrow hAB⟩, ⟨by show va_Z _ _ _ (.ref (ad 104)) _ _ _; rw [a4]; exact hZ4.narrow hAB, by show va_T _ (ad 104) _ _ _ _ _; rw [a4]; exact hT4.narrow hAB⟩, hS8, hC.narrow hAB, (by unfold gs_zq; rw [b0]; exact hq0.elim (fun h => Or.inl (h.narrow hAB)) (fun h => Or.inr (h.narrow hAB))), (by unfold gs_zq; rw [b1]; exact hq1.elim (fun h => Or.inl (h.narrow hAB)) (fun h => Or.inr (h.narrow hAB))), (by unfold gs_zq; rw [b2]; exact hq2.elim (fun h => Or.inl (h.narrow hAB)) (fun h => Or.inr (h.narrow hAB)))⟩, 
    ⟨vk_R.of (A := #[Value.ref b]) (hts (.stringRef "GrainShiftModel" 26 "y") (lw_in 1117 (by decide +kernel))) (hR 0 (by decide)), vk_R.of (A := #[Value.ref b]) (hts (.stringRef "GrainShiftModel" 32 "ldswbm") (lw_in 1118 (by decide +kernel))) (hR 1 (by decide))⟩,
    ⟨vk_R.of (A := #[Value.ref b]) (hts (.stringRef "GrainShiftModel" 54 "rsmlw") (lw_in 1121 (by decide +kernel))) (hR 2 (by decide)), vk_R.of (A := #[Value.ref b]) (hts (.stringRef "GrainShiftModel" 56 "ch") (lw_in 1122 (by decide +kernel))) (hR 3 (by decide)), vk_R.of (A := #[Value.ref b]) (hts (.stringRef "GrainShiftModel" 58 "gftbk") (lw_in 1123 (by decide +kernel))) (hR 4 (by decide)), hts (.arrayOver (.object "GrainShift$Hold")) (lw_in 178 (by decide +kernel)), hts (.arrayOver (.object "java/lang/String")) (lw_in 1120 (by decide +kernel)), hts (.arrayOver (.array .int)) (lw_in 127 (by decide +kernel))⟩, b3⟩
theorem gs_known {s : State} {b : Nat} (hts : ∀ w ∈ lw_tbl, w.before #[Value.ref b] s = true) : ∃ (g : va_G) (tyc : Nat → ClassId), va_K g vwCl (gs_tys tyc) s := by
  have ht : ∀ w ∈ gs_tbl, w.before #[Value.ref b] s = true := fun w hw => hts w (List.mem_filter.mp hw).1
  obtain ⟨c0, d0, k0⟩ := u_known (C := RX0) (T := TX0) (N := 2) (n := 2) ht gs_u0 (hts (.instantiable RX0 2) (lw_in 287 (by decide +kernel)))
  obtain ⟨c1, d1, k1⟩ := u_known (C := RX1) (T := TX1) (N := 14) (n := 14) ht gs_u1 (hts (.instantiable RX1 14) (lw_in 179 (by decide +kernel)))
  obtain ⟨c2, d2, k2⟩ := u_known (C := RX2) (T := TX2) (N := 6) (n := 6) ht gs_u2 (hts (.instantiable RX2 6) (lw_in 47 (by decide +kernel)))
  obtain ⟨c3, d3, k3⟩ := u_known (C := RX3) (T := TX3) (N := 3) (n := 3) ht gs_u3 (hts (.instantiable RX3 3) (lw_in 268 (by decide +kernel)))
  obtain ⟨c4, d4, k4⟩ := u_known (C := RX5) (T := TX5) (N := 5) (n := 5) ht gs_u4 (hts (.instantiable RX5 5) (lw_in 81 (by decide +kernel)))
  obtain ⟨c5, d5, k5⟩ := u_known (C := RX6) (T := TX6) (N := 6) (n := 6) ht gs_u5 (hts (.instantiable RX6 6) (lw_in 119 (by decide +kernel)))
  obtain ⟨c6, d6, k6⟩ := u_known (C := RX7) (T := TX7) (N := 3) (n := 3) ht gs_u6 (hts (.instantiable RX7 3) (lw_in 150 (by decide +kernel)))
  obtain ⟨c7, d7, k7⟩ := u_known (C := RX8) (T := TX8) (N := 2) (n := 2) ht gs_u7 (hts (.instantiable RX8 2) (lw_in 32 (by decide +kernel)))
  obtain ⟨c8, d8, k8⟩ := u_known (C := RX9) (T := TX9) (N := 4) (n := 4) ht gs_u8 (hts (.instantiable RX9 4) (lw_in 99 (by decide +kernel)))
  obtain ⟨c9, d9, k9⟩ := u_known (C := RX10) (T := TX10) (N := 7) (n := 7) ht gs_u9 (hts (.instantiable RX10 7) (lw_in 172 (by decide +kernel)))
  obtain ⟨c10, d10, k10⟩ := u_known (C := RX11) (T := TX11) (N := 20) (n := 20) ht gs_u10 (hts (.instantiable RX11 20) (lw_in 24 (by decide +kernel)))
  obtain ⟨c11, d11, k11⟩ := u_known (C := RX12) (T := TX12) (N := 52) (n := 52) ht gs_u11 (hts (.instantiable RX12 52) (lw_in 1112 (by decide +kernel)))
  obtain ⟨y0, h0, r0⟩ := gs_ac (hts (.arrayClass .int) (lw_in 45 (by decide +kernel))) (Or.inl rfl)
  obtain ⟨y1, h1, r1⟩ := gs_ac (hts (.arrayClass .byte) (lw_in 1281 (by decide +kernel))) (Or.inr (Or.inl rfl))
  obtain ⟨y2, h2, r2⟩ := gs_ac (hts (.arrayClass .long) (lw_in 1858 (by decide +kernel))) (Or.inr (Or.inr rfl))
  obtain ⟨y3, h3, r3⟩ := gs_ao (hts (.arrayOver (.object "GrainShift$Hold")) (lw_in 178 (by decide +kernel)))
  obtain ⟨y4, h4, r4⟩ := gs_aj (hts (.arrayOver (.array .int)) (lw_in 127 (by decide +kernel)))
  obtain ⟨y5, h5, r5⟩ := gs_ao (hts (.arrayOver (.object "java/lang/String")) (lw_in 1120 (by decide +kernel)))
  refine ⟨(fun k => [c0, c1, c2, c3, c4, c5, c6, c7, c8, c9, c10, c11].getD k c0, fun k => [d0, d1, d2, d3, d4, d5, d6, d7, d8, d9, d10, d11].getD k d0), fun k => [y0, y1, y2, y3, y4, y5].getD k y0, ?_, ?_⟩
  · intro k q hq
    match k, hq with
    | 0, hq => cases hq; exact k0
    | 1, hq => cases hq; exact k1
    | 2, hq => cases hq; exact k2
    | 3, hq => cases hq; exact k3
    | 4, hq => cases hq; exact k4
    | 5, hq => cases hq; exact k5
    | 6, hq => cases hq; exact k6
    | 7, hq => cases hq; exact k7
    | 8, hq => cases hq; exact k8
    | 9, hq => cases hq; exact k9
    | 10, hq => cases hq; exact k10
    | 11, hq => cases hq; exact k11
    | k + 12, hq => simp [vwCl] at hq
  · intro k q hq
    match k, hq with
    | 0, hq => cases hq; exact ⟨h0, r0⟩
    | 1, hq => cases hq; exact ⟨h1, r1⟩
    | 2, hq => cases hq; exact ⟨h2, r2⟩
    | 3, hq => cases hq; exact ⟨h3, r3⟩
    | 4, hq => cases hq; exact ⟨h4, r4⟩
    | 5, hq => cases hq; exact ⟨h5, r5⟩
    | k + 6, hq => simp [gs_tys] at hq
