def yS_len : MethodName := ⟨"java/lang/String", "length", "()I"⟩
def yS_chr : MethodName := ⟨"java/lang/String", "charAt", "(I)C"⟩
def yS_cod : MethodName := ⟨"java/lang/String", "coder", "()B"⟩
def yS_isl : MethodName := ⟨"java/lang/String", "isLatin1", "()Z"⟩
def yS_chk : MethodName := ⟨"java/lang/String", "checkIndex", "(II)V"⟩
def yS_lat : MethodName := ⟨"java/lang/StringLatin1", "charAt", "([BI)C"⟩
def yS_pre : MethodName := ⟨"jdk/internal/util/Preconditions", "checkIndex", "(IILjava/util/function/BiFunction;)I"⟩
abbrev cS_len : ByteArray := prog_21_method_54_code
abbrev cS_chr : ByteArray := prog_21_method_56_code
abbrev cS_cod : ByteArray := prog_21_method_152_code
abbrev cS_isl : ByteArray := prog_21_method_154_code
abbrev cS_chk : ByteArray := prog_21_method_155_code
abbrev cS_lat : ByteArray := prog_22_method_2_code
abbrev cS_pre : ByteArray := prog_28_method_11_code
theorem mfS_len : gs_MF yS_len cS_len 1 (some .int) 0 := ⟨gs_t 1330 (by decide +kernel) (by decide +kernel), gs_t 14 (by decide +kernel) (by decide +kernel), by decide, by decide, by decide +kernel, by decide, by decide⟩
theorem mfS_chr : gs_MF yS_chr cS_chr 2 (some .char) 1 := ⟨gs_t 1340 (by decide +kernel) (by decide +kernel), gs_t 14 (by decide +kernel) (by decide +kernel), by decide, by decide, by decide +kernel, by decide, by decide⟩
theorem mfS_cod : gs_MF yS_cod cS_cod 1 (some .byte) 0 := ⟨gs_t 1334 (by decide +kernel) (by decide +kernel), gs_t 14 (by decide +kernel) (by decide +kernel), by decide, by decide, by decide +kernel, by decide, by decide⟩
theorem mfS_isl : gs_MF yS_isl cS_isl 1 (some .boolean) 0 := ⟨gs_t 1344 (by decide +kernel) (by decide +kernel), gs_t 14 (by decide +kernel) (by decide +kernel), by decide, by decide, by decide +kernel, by decide, by decide⟩
theorem mfS_chk : gs_MF yS_chk cS_chk 2 none 2 := ⟨gs_t 1350 (by decide +kernel) (by decide +kernel), gs_t 14 (by decide +kernel) (by decide +kernel), by decide, by decide, by decide +kernel, by decide, by decide⟩
theorem mfS_lat : gs_MF yS_lat cS_lat 2 (some .char) 2 := ⟨gs_t 1347 (by decide +kernel) (by decide +kernel), gs_t 15 (by decide +kernel) (by decide +kernel), by decide, by decide, by decide +kernel, by decide, by decide⟩
theorem mfS_pre : gs_MF yS_pre cS_pre 3 (some .int) 3 := ⟨gs_t 1355 (by decide +kernel) (by decide +kernel), gs_t 16 (by decide +kernel) (by decide +kernel), by decide, by decide, by decide +kernel, by decide, by decide⟩
theorem dS_len_0 : gd cS_len 0 (.aload_n 0) 1 1 := ⟨by decide +kernel, rfl⟩
theorem dS_len_1 : gd cS_len 1 (.getfield 9) 3 4 := ⟨by decide +kernel, rfl⟩
theorem dS_len_4 : gd cS_len 4 .arraylength 1 5 := ⟨by decide +kernel, rfl⟩
theorem dS_len_5 : gd cS_len 5 (.aload_n 0) 1 6 := ⟨by decide +kernel, rfl⟩
theorem dS_len_6 : gd cS_len 6 (.invokevirtual 335) 3 9 := ⟨by decide +kernel, rfl⟩
theorem dS_len_9 : gd cS_len 9 .ishr 1 10 := ⟨by decide +kernel, rfl⟩
theorem dS_len_10 : gd cS_len 10 .ireturn 1 11 := ⟨by decide +kernel, rfl⟩
theorem dS_chr_0 : gd cS_chr 0 (.aload_n 0) 1 1 := ⟨by decide +kernel, rfl⟩
theorem dS_chr_1 : gd cS_chr 1 (.invokevirtual 492) 3 4 := ⟨by decide +kernel, rfl⟩
theorem dS_chr_4 : gd cS_chr 4 (.ifCond .eq 12) 3 7 := ⟨by decide +kernel, rfl⟩
theorem dS_chr_7 : gd cS_chr 7 (.aload_n 0) 1 8 := ⟨by decide +kernel, rfl⟩
theorem dS_chr_8 : gd cS_chr 8 (.getfield 9) 3 11 := ⟨by decide +kernel, rfl⟩
theorem dS_chr_11 : gd cS_chr 11 (.iload_n 1) 1 12 := ⟨by decide +kernel, rfl⟩
theorem dS_chr_12 : gd cS_chr 12 (.invokestatic 495) 3 15 := ⟨by decide +kernel, rfl⟩
theorem dS_chr_15 : gd cS_chr 15 .ireturn 1 16 := ⟨by decide +kernel, rfl⟩
theorem dS_cod_0 : gd cS_cod 0 (.getstatic 38) 3 3 := ⟨by decide +kernel, rfl⟩
theorem dS_cod_3 : gd cS_cod 3 (.ifCond .eq 10) 3 6 := ⟨by decide +kernel, rfl⟩
theorem dS_cod_6 : gd cS_cod 6 (.aload_n 0) 1 7 := ⟨by decide +kernel, rfl⟩
theorem dS_cod_7 : gd cS_cod 7 (.getfield 15) 3 10 := ⟨by decide +kernel, rfl⟩
theorem dS_cod_10 : gd cS_cod 10 (.goto 4) 3 13 := ⟨by decide +kernel, rfl⟩
theorem dS_cod_14 : gd cS_cod 14 .ireturn 1 15 := ⟨by decide +kernel, rfl⟩
theorem dS_isl_0 : gd cS_isl 0 (.getstatic 38) 3 3 := ⟨by decide +kernel, rfl⟩
theorem dS_isl_3 : gd cS_isl 3 (.ifCond .eq 14) 3 6 := ⟨by decide +kernel, rfl⟩
theorem dS_isl_6 : gd cS_isl 6 (.aload_n 0) 1 7 := ⟨by decide +kernel, rfl⟩
theorem dS_isl_7 : gd cS_isl 7 (.getfield 15) 3 10 := ⟨by decide +kernel, rfl⟩
theorem dS_isl_10 : gd cS_isl 10 (.ifCond .ne 7) 3 13 := ⟨by decide +kernel, rfl⟩
theorem dS_isl_13 : gd cS_isl 13 (.iconst 1) 1 14 := ⟨by decide +kernel, rfl⟩
theorem dS_isl_14 : gd cS_isl 14 (.goto 4) 3 17 := ⟨by decide +kernel, rfl⟩
theorem dS_isl_18 : gd cS_isl 18 .ireturn 1 19 := ⟨by decide +kernel, rfl⟩
theorem dS_chk_0 : gd cS_chk 0 (.iload_n 0) 1 1 := ⟨by decide +kernel, rfl⟩
theorem dS_chk_1 : gd cS_chk 1 (.iload_n 1) 1 2 := ⟨by decide +kernel, rfl⟩
theorem dS_chk_2 : gd cS_chk 2 (.getstatic 1053) 3 5 := ⟨by decide +kernel, rfl⟩
theorem dS_chk_5 : gd cS_chk 5 (.invokestatic 1059) 3 8 := ⟨by decide +kernel, rfl⟩
theorem dS_chk_8 : gd cS_chk 8 .pop 1 9 := ⟨by decide +kernel, rfl⟩
theorem dS_chk_9 : gd cS_chk 9 .return_ 1 10 := ⟨by decide +kernel, rfl⟩
theorem dS_lat_0 : gd cS_lat 0 (.iload_n 1) 1 1 := ⟨by decide +kernel, rfl⟩
theorem dS_lat_1 : gd cS_lat 1 (.aload_n 0) 1 2 := ⟨by decide +kernel, rfl⟩
theorem dS_lat_2 : gd cS_lat 2 .arraylength 1 3 := ⟨by decide +kernel, rfl⟩
theorem dS_lat_3 : gd cS_lat 3 (.invokestatic 9) 3 6 := ⟨by decide +kernel, rfl⟩
theorem dS_lat_6 : gd cS_lat 6 (.aload_n 0) 1 7 := ⟨by decide +kernel, rfl⟩
theorem dS_lat_7 : gd cS_lat 7 (.iload_n 1) 1 8 := ⟨by decide +kernel, rfl⟩
theorem dS_lat_8 : gd cS_lat 8 .baload 1 9 := ⟨by decide +kernel, rfl⟩
theorem dS_lat_9 : gd cS_lat 9 (.sipush 255) 3 12 := ⟨by decide +kernel, rfl⟩
theorem dS_lat_12 : gd cS_lat 12 .iand 1 13 := ⟨by decide +kernel, rfl⟩
theorem dS_lat_13 : gd cS_lat 13 .i2c 1 14 := ⟨by decide +kernel, rfl⟩
theorem dS_lat_14 : gd cS_lat 14 .ireturn 1 15 := ⟨by decide +kernel, rfl⟩
theorem dS_pre_0 : gd cS_pre 0 (.iload_n 0) 1 1 := ⟨by decide +kernel, rfl⟩
theorem dS_pre_1 : gd cS_pre 1 (.ifCond .lt 8) 3 4 := ⟨by decide +kernel, rfl⟩
theorem dS_pre_4 : gd cS_pre 4 (.iload_n 0) 1 5 := ⟨by decide +kernel, rfl⟩
theorem dS_pre_5 : gd cS_pre 5 (.iload_n 1) 1 6 := ⟨by decide +kernel, rfl⟩
theorem dS_pre_6 : gd cS_pre 6 (.if_icmp .lt 10) 3 9 := ⟨by decide +kernel, rfl⟩
theorem dS_pre_16 : gd cS_pre 16 (.iload_n 0) 1 17 := ⟨by decide +kernel, rfl⟩
theorem dS_pre_17 : gd cS_pre 17 .ireturn 1 18 := ⟨by decide +kernel, rfl⟩
section GSS
variable {p : Program} {l : Launch} {e : Env} {R : Room} {s : State} {m : MethodId} {args : Array Value} {below : List Frame} {meth : Method} {c : Code} {cells slots : Nat} {Q : State → Prop}
variable {ad : Nat → Nat} {g : va_G} {tyc : Nat → ClassId} {own : String} {cc : ByteArray} {nL : Nat} {ret : Option FieldType} {d : Nat}
variable {pc pc2 : Nat} {ls ls2 : List Value} {st : List Value} {μ : gs_M}
theorem r_sval (hK : KC p R s m args meth c ad g tyc own cc nL ret d) {idx k : Nat} (hk : k < 5) (hd : gd cc pc (.getfield idx) 3 pc2) (hl1 : Cond.fieldLink own idx "java/lang/String" "value" "[B" ∈ gs_tbl) (kk : WJ p l e R s m args below meth c cells slots Q ad g tyc nL pc2 ls (.ref (110 + k) :: st) μ) : WJ p l e R s m args below meth c cells slots Q ad g tyc nL pc ls (.ref (105 + k) :: st) μ := by
  obtain ⟨hd, rfl⟩ := hd
  obtain ⟨hx, hb, -, -, -, hown, ht, hW, -⟩ := hK
  exact fun H locs lr hP hS hl => vk_getf hx hb (hW.2.2.1.2.2.2.2.2.1.1 k hk).2.2.1 hS hown (ht _ hl1) (fun _ h => h) hd (kk H locs lr hP hS hl)
theorem r_scod (hK : KC p R s m args meth c ad g tyc own cc nL ret d) {idx k : Nat} (hk : k < 5) (hd : gd cc pc (.getfield idx) 3 pc2) (hl1 : Cond.fieldLink own idx "java/lang/String" "coder" "B" ∈ gs_tbl) (kk : WJ p l e R s m args below meth c cells slots Q ad g tyc nL pc2 ls (.int 0 :: st) μ) : WJ p l e R s m args below meth c cells slots Q ad g tyc nL pc ls (.ref (105 + k) :: st) μ := by
  obtain ⟨hd, rfl⟩ := hd
  obtain ⟨hx, hb, -, -, -, hown, ht, hW, -⟩ := hK
  exact fun H locs lr hP hS hl => vk_getf hx hb (hW.2.2.1.2.2.2.2.2.1.1 k hk).2.1 hS hown (ht _ hl1) (fun _ h => h) hd (kk H locs lr hP hS hl)
theorem r_sblen (hK : KC p R s m args meth c ad g tyc own cc nL ret d) {k : Nat} (hk : k < 5) (hd : gd cc pc .arraylength 1 pc2) (kk : WJ p l e R s m args below meth c cells slots Q ad g tyc nL pc2 ls (.int (nI (gs_sl.getD k 0)) :: st) μ) : WJ p l e R s m args below meth c cells slots Q ad g tyc nL pc ls (.ref (110 + k) :: st) μ := by
  obtain ⟨hd, rfl⟩ := hd
  obtain ⟨hx, hb, -, -, -, hown, ht, hW, -⟩ := hK
  exact fun H locs lr hP hS hl => va_tlen hx hb (hW.2.2.1.2.2.2.2.2.1.1 k hk).2.2.2 hS rfl hd (kk H locs lr hP hS hl)
theorem r_sbald (hK : KC p R s m args meth c ad g tyc own cc nL ret d) {k : Nat} {i : Int32} (hk : k < 5) (hd : gd cc pc .baload 1 pc2) (hi : vp_in i (gs_sl.getD k 0)) (kk : WJ p l e R s m args below meth c cells slots Q ad g tyc nL pc2 ls (.int (cS k i.toNatClampNeg) :: st) μ) : WJ p l e R s m args below meth c cells slots Q ad g tyc nL pc ls (.int i :: .ref (110 + k) :: st) μ := by
  obtain ⟨hd, rfl⟩ := hd
  obtain ⟨hx, hb, -, -, -, hown, ht, hW, -⟩ := hK
  exact fun H locs lr hP hS hl => va_tb hx hb (hW.2.2.1.2.2.2.2.2.1.1 k hk).2.2.2 hS hi rfl hd (kk H locs lr hP hS hl)
theorem r_scomp (hK : KC p R s m args meth c ad g tyc own cc nL ret d) {idx : Nat} (hd : gd cc pc (.getstatic idx) 3 pc2) (hl1 : Cond.fieldLink own idx "java/lang/String" "COMPACT_STRINGS" "Z" ∈ gs_tbl) (kk : WJ p l e R s m args below meth c cells slots Q ad g tyc nL pc2 ls (.int 1 :: st) μ) : WJ p l e R s m args below meth c cells slots Q ad g tyc nL pc ls (st) μ := by
  obtain ⟨hd, rfl⟩ := hd
  obtain ⟨hx, hb, -, -, -, hown, ht, hW, -⟩ := hK
  exact fun H locs lr hP hS hl => va_gets hx hb hW.2.2.1.2.2.2.2.2.2.1 hS hown (ht _ hl1) (fun _ h => h) hd (kk H locs lr hP hS hl)
theorem r_sform (hK : KC p R s m args meth c ad g tyc own cc nL ret d) {idx : Nat} (hd : gd cc pc (.getstatic idx) 3 pc2) (hl1 : Cond.fieldLink own idx "jdk/internal/util/Preconditions" "SIOOBE_FORMATTER" "Ljava/util/function/BiFunction;" ∈ gs_tbl) (k1 : WJ p l e R s m args below meth c cells slots Q ad g tyc nL pc2 ls (.null :: st) μ) (k2 : WJ p l e R s m args below meth c cells slots Q ad g tyc nL pc2 ls (.ref 115 :: st) μ) : WJ p l e R s m args below meth c cells slots Q ad g tyc nL pc ls (st) μ := by
  obtain ⟨hd, rfl⟩ := hd
  obtain ⟨hx, hb, -, -, -, hown, ht, hW, -⟩ := hK
  rcases hW.2.2.1.2.2.2.2.2.2.2.1 with h | h
  · exact fun H locs lr hP hS hl => va_gets hx hb h hS hown (ht _ hl1) (fun _ h => h) hd (k1 H locs lr hP hS hl)
  · exact fun H locs lr hP hS hl => va_gets hx hb h hS hown (ht _ hl1) (fun _ h => h) hd (k2 H locs lr hP hS hl)
theorem r_i2c (hK : KC p R s m args meth c ad g tyc own cc nL ret d) {x v : Int32} (hd : gd cc pc .i2c 1 pc2) (hv : (x.toUInt32 % 65536).toInt32 = v) (k : WJ p l e R s m args below meth c cells slots Q ad g tyc nL pc2 ls (.int v :: st) μ) : WJ p l e R s m args below meth c cells slots Q ad g tyc nL pc ls (.int x :: st) μ := by
  obtain ⟨hd, rfl⟩ := hd
  exact fun H locs lr hP hS hl => lv_i2c hK.1 hK.2.1 hd hv (k H locs lr hP hS hl)
theorem r_nret {ty : FieldType} (hK : KC p R s m args meth c ad g tyc own cc nL (some ty) d) {v : Int32} (hn : narrow ty (.int v) = .int v) (hd : gd cc pc .ireturn 1 pc2) : WJ p l e R s m args below meth c cells slots (MQ below (gs_Q ad g tyc (some (.int v)) μ) args s cells slots (gs_A ad)) ad g tyc nL pc ls ([.int v]) μ := by
  obtain ⟨hx, hb, hr, hlk, -⟩ := hK
  intro H locs lr hP hS hl
  exact W.zret hx hb hr hn (fun t ht _ => ⟨rfl, by rw [ht]; exact hP, hS.F ht⟩) hS.2.2 hd.1 hlk
theorem r_callT (hK : KC p R s m args meth c ad g tyc own cc nL ret d) {idx k n nL2 d2 : Nat} {y : MethodName} {cc2 : ByteArray} {ret2 : Option FieldType} {As stk stk2 : List Value} {o : Option Value} {μ1 : gs_M} (hk : k < 5) (hM : CALL y cc2 nL2 ret2 d2 (.ref (105 + k) :: As) μ o μ1) (hd : gd cc pc (.invokevirtual idx) 3 pc2) (hF : gs_MF y cc2 nL2 ret2 n) (hL : Cond.methodLink own idx y ∈ gs_tbl) (hI : Cond.instanceMethod y ∈ gs_tbl) (hZ : Cond.selects "java/lang/String" y y ∈ gs_tbl) (hn : As.length = n) (h8 : (st.map fun v => v.category).sum ≤ 8) (hdd : d2 + 1 ≤ d) (hcs : cells ≤ R.cells ∧ slots ≤ R.slots) (hs : As.reverse ++ .ref (105 + k) :: st = stk) (hs2 : o.toList ++ st = stk2) (kk : WJ p l e R s m args below meth c cells slots Q ad g tyc nL pc2 ls (stk2) μ1) : WJ p l e R s m args below meth c cells slots Q ad g tyc nL pc ls (stk) μ := by
  obtain ⟨hd, rfl⟩ := hd
  subst hs
  subst hs2
  obtain ⟨hx, hb, -, -, hml, hown, ht, hW, hf1, hf2⟩ := hK
  obtain ⟨f1, f2, f3, f4, f5, f6, f7⟩ := hF
  intro H locs lr hP hS hl
  refine gs_after hS hl (va_runV (As := As.map (vr ad)) (b := ad (105 + k)) (rest := st.map (vr ad)) (cc := cc) (nL := nL) (Ts := gs_tbl) (own := own) (C := "java/lang/String") (index := idx) (n := n) (bytes := cc2) (maxL := nL2) (ret := ret2) ⟨hx, hb, hml, hown, ht⟩ (hM l ad g tyc) ⟨callB_of n ht (gs_goodc f1) rfl rfl rfl (ht _ f2) (ht _ hL) ⟨f3, f4, f5⟩ ⟨?_, ?_⟩, ht _ hI, ht _ hZ⟩ ⟨gs_blind, vk_recv (adK := fun i => ad (105 + i)) (i := k) hW.2.2.1.2.2.2.2.2.1 hk hS, fun U hU hWw => ⟨rfl, by rw [hU]; exact hP, hW.go hS hU hWw⟩⟩ rfl (by rw [List.length_map]; exact hn) hl.1 ?_ (lv_room (by rw [gs_cat]; exact h8)) hd ⟨hcs.1, hcs.2⟩) kk
  · show d2 + 1 ≤ R.frames
    omega
  · show 8 + (nL2 + 11) + d2 * 64 ≤ R.locals
    omega
  · show (As.reverse ++ .ref (105 + k) :: st).map (vr ad) = _
    rw [List.map_append, List.map_reverse]; rfl
end GSS
theorem CS_cod {k : Nat} (hk : k < 5) {μ : gs_M} : CALL yS_cod cS_cod 1 (some .byte) 0 [.ref (105 + k)] μ (some (.int 0)) μ := by
  refine gs_enter mfS_cod (Nat.le_of_ble_eq_true rfl) (ls := [.ref (105 + k)]) rfl (fun p l e R s m args below meth c ad g tyc hK => ?_)
  have hK : KC p R s m args meth c ad g tyc "java/lang/String" cS_cod 1 (some .byte) 0 := hK
  refine r_scomp hK dS_cod_0 (gs_t 1335 (by decide +kernel) (by decide +kernel)) ?_
  refine r_if_eq (tgt := 13) hK dS_cod_3 (by decide) (fun h => absurd h (by decide)) (fun _ => ?_)
  refine r_aload_n hK dS_cod_6 rfl rfl ?_
  refine r_scod hK hk dS_cod_7 (gs_t 1876 (by decide +kernel) (by decide +kernel)) ?_
  refine r_goto (tgt := 14) hK dS_cod_10 (by decide) ?_
  exact r_nret hK (by decide +kernel) dS_cod_14
theorem CS_isl {k : Nat} (hk : k < 5) {μ : gs_M} : CALL yS_isl cS_isl 1 (some .boolean) 0 [.ref (105 + k)] μ (some (.int 1)) μ := by
  refine gs_enter mfS_isl (Nat.le_of_ble_eq_true rfl) (ls := [.ref (105 + k)]) rfl (fun p l e R s m args below meth c ad g tyc hK => ?_)
  have hK : KC p R s m args meth c ad g tyc "java/lang/String" cS_isl 1 (some .boolean) 0 := hK
  refine r_scomp hK dS_isl_0 (gs_t 1335 (by decide +kernel) (by decide +kernel)) ?_
  refine r_if_eq (tgt := 17) hK dS_isl_3 (by decide) (fun h => absurd h (by decide)) (fun _ => ?_)
  refine r_aload_n hK dS_isl_6 rfl rfl ?_
  refine r_scod hK hk dS_isl_7 (gs_t 1876 (by decide +kernel) (by decide +kernel)) ?_
  refine r_if_ne (tgt := 17) hK dS_isl_10 (by decide) (fun h => absurd rfl h) (fun _ => ?_)
  refine r_iconst hK dS_isl_13 ci_1 ?_
  refine r_goto (tgt := 18) hK dS_isl_14 (by decide) ?_
  exact r_nret hK (by decide +kernel) dS_isl_18
theorem CS_len {k : Nat} (hk : k < 5) {μ : gs_M} : CALL yS_len cS_len 1 (some .int) 1 [.ref (105 + k)] μ (some (.int (nI (gs_sl.getD k 0)))) μ := by
  refine gs_enter mfS_len (Nat.le_of_ble_eq_true rfl) (ls := [.ref (105 + k)]) rfl (fun p l e R s m args below meth c ad g tyc hK => ?_)
  have hK : KC p R s m args meth c ad g tyc "java/lang/String" cS_len 1 (some .int) 1 := hK
  refine r_aload_n hK dS_len_0 rfl rfl ?_
  refine r_sval hK hk dS_len_1 (gs_t 1875 (by decide +kernel) (by decide +kernel)) ?_
  refine r_sblen hK hk dS_len_4 ?_
  refine r_aload_n hK dS_len_5 rfl rfl ?_
  refine r_callT (As := []) (st := [.int (nI (gs_sl.getD k 0))]) (stk2 := [.int 0, .int (nI (gs_sl.getD k 0))]) hK hk (CS_cod hk) dS_len_6 mfS_cod (gs_t 1331 (by decide +kernel) (by decide +kernel)) (gs_t 1332 (by decide +kernel) (by decide +kernel)) (gs_t 1333 (by decide +kernel) (by decide +kernel)) rfl (Nat.le_of_ble_eq_true rfl) (by decide) ⟨Nat.zero_le _, Nat.zero_le _⟩ rfl rfl ?_
  refine r_ishr hK dS_len_9 ?_
  rw [sb_shr0]
  exact r_iret hK dS_len_10
theorem CS_pre0 {i n : Int32} (h1 : ¬ i < 0) (h2 : i < n) {μ : gs_M} : CALL yS_pre cS_pre 3 (some .int) 0 [.int i, .int n, .null] μ (some (.int i)) μ := by
  refine gs_enter mfS_pre (Nat.le_of_ble_eq_true rfl) (ls := [.int i, .int n, .null]) rfl (fun p l e R s m args below meth c ad g tyc hK => ?_)
  have hK : KC p R s m args meth c ad g tyc "jdk/internal/util/Preconditions" cS_pre 3 (some .int) 0 := hK
  refine r_iload_n hK dS_pre_0 rfl rfl ?_
  refine r_if_lt (tgt := 9) hK dS_pre_1 (by decide) (fun h => absurd h h1) (fun _ => ?_)
  refine r_iload_n hK dS_pre_4 rfl rfl ?_
  refine r_iload_n hK dS_pre_5 rfl rfl ?_
  refine r_icmp_lt (tgt := 16) hK dS_pre_6 (by decide) (fun _ => ?_) (fun h => absurd h2 h)
  refine r_iload_n hK dS_pre_16 rfl rfl ?_
  exact r_iret hK dS_pre_17
theorem CS_pre1 {i n : Int32} (h1 : ¬ i < 0) (h2 : i < n) {μ : gs_M} : CALL yS_pre cS_pre 3 (some .int) 0 [.int i, .int n, .ref 115] μ (some (.int i)) μ := by
  refine gs_enter mfS_pre (Nat.le_of_ble_eq_true rfl) (ls := [.int i, .int n, .ref 115]) rfl (fun p l e R s m args below meth c ad g tyc hK => ?_)
  have hK : KC p R s m args meth c ad g tyc "jdk/internal/util/Preconditions" cS_pre 3 (some .int) 0 := hK
  refine r_iload_n hK dS_pre_0 rfl rfl ?_
  refine r_if_lt (tgt := 9) hK dS_pre_1 (by decide) (fun h => absurd h h1) (fun _ => ?_)
  refine r_iload_n hK dS_pre_4 rfl rfl ?_
  refine r_iload_n hK dS_pre_5 rfl rfl ?_
  refine r_icmp_lt (tgt := 16) hK dS_pre_6 (by decide) (fun _ => ?_) (fun h => absurd h2 h)
  refine r_iload_n hK dS_pre_16 rfl rfl ?_
  exact r_iret hK dS_pre_17
theorem CS_chk {i n : Int32} (h1 : ¬ i < 0) (h2 : i < n) {μ : gs_M} : CALL yS_chk cS_chk 2 none 1 [.int i, .int n] μ none μ := by
  refine gs_enter mfS_chk (Nat.le_of_ble_eq_true rfl) (ls := [.int i, .int n]) rfl (fun p l e R s m args below meth c ad g tyc hK => ?_)
  have hK : KC p R s m args meth c ad g tyc "java/lang/String" cS_chk 2 none 1 := hK
  refine r_iload_n hK dS_chk_0 rfl rfl ?_
  refine r_iload_n hK dS_chk_1 rfl rfl ?_
  refine r_sform hK dS_chk_2 (gs_t 1351 (by decide +kernel) (by decide +kernel)) ?_ ?_
  · refine r_callS (As := [.int i, .int n, .null]) (st := []) (stk2 := [.int i]) hK (CS_pre0 h1 h2) dS_chk_5 mfS_pre (gs_t 1353 (by decide +kernel) (by decide +kernel)) (gs_t 1354 (by decide +kernel) (by decide +kernel)) rfl (Nat.le_of_ble_eq_true rfl) (by decide) ⟨Nat.zero_le _, Nat.zero_le _⟩ rfl rfl ?_
    refine r_pop hK dS_chk_8 rfl ?_
    exact r_vret hK dS_chk_9
  · refine r_callS (As := [.int i, .int n, .ref 115]) (st := []) (stk2 := [.int i]) hK (CS_pre1 h1 h2) dS_chk_5 mfS_pre (gs_t 1353 (by decide +kernel) (by decide +kernel)) (gs_t 1354 (by decide +kernel) (by decide +kernel)) rfl (Nat.le_of_ble_eq_true rfl) (by decide) ⟨Nat.zero_le _, Nat.zero_le _⟩ rfl rfl ?_
    refine r_pop hK dS_chk_8 rfl ?_
    exact r_vret hK dS_chk_9
theorem cS_255 : ∀ k, k < 5 → ∀ i, i < 6 → cS k i &&& 255 = cS k i := by decide +kernel
theorem gs_slr : ∀ k, k < 5 → gs_sl.getD k 0 ≤ 6 := by decide +kernel
theorem CS_lat {k : Nat} {i : Int32} (hk : k < 5) (hi : vp_in i (gs_sl.getD k 0)) {μ : gs_M} : CALL yS_lat cS_lat 2 (some .char) 2 [.ref (110 + k), .int i] μ (some (.int (cS k i.toNatClampNeg))) μ := by
  have h6 := gs_slr k hk
  obtain ⟨j, hj, rfl⟩ := vp_in_of hi (by omega)
  have h255 := cS_255 k hk j (by omega)
  have hc : (nI j).toNatClampNeg = j := nI_clamp (by omega)
  refine gs_enter mfS_lat (Nat.le_of_ble_eq_true rfl) (ls := [.ref (110 + k), .int (nI j)]) rfl (fun p l e R s m args below meth c ad g tyc hK => ?_)
  have hK : KC p R s m args meth c ad g tyc "java/lang/StringLatin1" cS_lat 2 (some .char) 2 := hK
  refine r_iload_n hK dS_lat_0 rfl rfl ?_
  refine r_aload_n hK dS_lat_1 rfl rfl ?_
  refine r_sblen hK hk dS_lat_2 ?_
  refine r_callS (As := [.int (nI j), .int (nI (gs_sl.getD k 0))]) (st := []) (stk2 := []) hK (CS_chk (nI_pos (by omega)) (nI_lt hj (by omega))) dS_lat_3 mfS_chk (gs_t 1348 (by decide +kernel) (by decide +kernel)) (gs_t 1349 (by decide +kernel) (by decide +kernel)) rfl (Nat.le_of_ble_eq_true rfl) (by decide) ⟨Nat.zero_le _, Nat.zero_le _⟩ rfl rfl ?_
  refine r_aload_n hK dS_lat_6 rfl rfl ?_
  refine r_iload_n hK dS_lat_7 rfl rfl ?_
  refine r_sbald hK hk dS_lat_8 hi ?_
  refine r_sipush hK dS_lat_9 cs_255 ?_
  refine r_iand hK dS_lat_12 ?_
  rw [hc, h255]
  have h2 : ((cS k j).toUInt32 % 65536).toInt32 = cS k j := by
    have := sc_c2 (cS k j)
    rw [h255] at this
    exact this
  refine r_i2c hK dS_lat_13 h2 ?_
  have h3 : narrow .char (.int (cS k j)) = .int (cS k j) := by
    have := sc_nar (cS k j)
    rw [h255] at this
    exact this
  exact r_nret hK h3 dS_lat_14
theorem CS_chr {k : Nat} {i : Int32} (hk : k < 5) (hi : vp_in i (gs_sl.getD k 0)) {μ : gs_M} : CALL yS_chr cS_chr 2 (some .char) 3 [.ref (105 + k), .int i] μ (some (.int (cS k i.toNatClampNeg))) μ := by
  have h3 : narrow .char (.int (cS k i.toNatClampNeg)) = .int (cS k i.toNatClampNeg) := by
    have h6 := gs_slr k hk
    have hlt : i.toNatClampNeg < gs_sl.getD k 0 := Nat.not_le.mp fun q => hi (Or.inr q)
    have := sc_nar (cS k i.toNatClampNeg)
    rw [cS_255 k hk _ (by omega)] at this
    exact this
  refine gs_enter mfS_chr (Nat.le_of_ble_eq_true rfl) (ls := [.ref (105 + k), .int i]) rfl (fun p l e R s m args below meth c ad g tyc hK => ?_)
  have hK : KC p R s m args meth c ad g tyc "java/lang/String" cS_chr 2 (some .char) 3 := hK
  refine r_aload_n hK dS_chr_0 rfl rfl ?_
  refine r_callT (As := []) (st := []) (stk2 := [.int 1]) hK hk (CS_isl hk) dS_chr_1 mfS_isl (gs_t 1341 (by decide +kernel) (by decide +kernel)) (gs_t 1342 (by decide +kernel) (by decide +kernel)) (gs_t 1343 (by decide +kernel) (by decide +kernel)) rfl (Nat.le_of_ble_eq_true rfl) (by decide) ⟨Nat.zero_le _, Nat.zero_le _⟩ rfl rfl ?_
  refine r_if_eq (tgt := 16) hK dS_chr_4 (by decide) (fun h => absurd h (by decide)) (fun _ => ?_)
  refine r_aload_n hK dS_chr_7 rfl rfl ?_
  refine r_sval hK hk dS_chr_8 (gs_t 1875 (by decide +kernel) (by decide +kernel)) ?_
  refine r_iload_n hK dS_chr_11 rfl rfl ?_
  refine r_callS (As := [.ref (110 + k), .int i]) (st := []) (stk2 := [.int (cS k i.toNatClampNeg)]) hK (CS_lat hk hi) dS_chr_12 mfS_lat (gs_t 1345 (by decide +kernel) (by decide +kernel)) (gs_t 1346 (by decide +kernel) (by decide +kernel)) rfl (Nat.le_of_ble_eq_true rfl) (by decide) ⟨Nat.zero_le _, Nat.zero_le _⟩ rfl rfl ?_
  exact r_nret hK h3 dS_chr_15
section GSU
variable {p : Program} {l : Launch} {e : Env} {R : Room} {s : State} {m : MethodId} {args : Array Value} {below : List Frame} {meth : Method} {c : Code} {cells slots : Nat} {Q : State → Prop}
variable {ad : Nat → Nat} {g : va_G} {tyc : Nat → ClassId} {own : String} {cc : ByteArray} {nL : Nat} {ret : Option FieldType} {d : Nat}
variable {pc pc2 : Nat} {ls : List Value} {st : List Value} {μ : gs_M}
theorem r_slen (hK : KC p R s m args meth c ad g tyc own cc nL ret d) {idx a : Nat} (hd : gd cc pc (.invokevirtual idx) 3 pc2) (hL : Cond.methodLink own idx ⟨"java/lang/String", "length", "()I"⟩ ∈ gs_tbl) (ha : 105 ≤ a ∧ a < 110) (h8 : (st.map fun v => v.category).sum ≤ 8) (hdd : 2 ≤ d) (hcs : cells ≤ R.cells ∧ slots ≤ R.slots) (kk : WJ p l e R s m args below meth c cells slots Q ad g tyc nL pc2 ls (.int (nI (gs_sl.getD (a - 105) 0)) :: st) μ) : WJ p l e R s m args below meth c cells slots Q ad g tyc nL pc ls (.ref a :: st) μ := by
  obtain ⟨k, hk, rfl⟩ : ∃ k, k < 5 ∧ a = 105 + k := ⟨a - 105, by omega, by omega⟩
  rw [Nat.add_sub_cancel_left] at kk
  exact r_callT (As := []) (st := st) hK hk (CS_len hk) hd mfS_len hL (gs_t 1328 (by decide +kernel) (by decide +kernel)) (gs_t 1329 (by decide +kernel) (by decide +kernel)) rfl h8 (by omega) hcs rfl rfl kk
theorem r_scat (hK : KC p R s m args meth c ad g tyc own cc nL ret d) {idx a : Nat} {i : Int32} (hd : gd cc pc (.invokevirtual idx) 3 pc2) (hL : Cond.methodLink own idx ⟨"java/lang/String", "charAt", "(I)C"⟩ ∈ gs_tbl) (ha : 105 ≤ a ∧ a < 110) (hi : vp_in i (gs_sl.getD (a - 105) 0)) (h8 : (st.map fun v => v.category).sum ≤ 8) (hdd : 4 ≤ d) (hcs : cells ≤ R.cells ∧ slots ≤ R.slots) (kk : WJ p l e R s m args below meth c cells slots Q ad g tyc nL pc2 ls (.int (cS (a - 105) i.toNatClampNeg) :: st) μ) : WJ p l e R s m args below meth c cells slots Q ad g tyc nL pc ls (.int i :: .ref a :: st) μ := by
  obtain ⟨k, hk, rfl⟩ : ∃ k, k < 5 ∧ a = 105 + k := ⟨a - 105, by omega, by omega⟩
  rw [Nat.add_sub_cancel_left] at kk hi
  exact r_callT (As := [.int i]) (st := st) hK hk (CS_chr hk hi) hd mfS_chr hL (gs_t 1338 (by decide +kernel) (by decide +kernel)) (gs_t 1339 (by decide +kernel) (by decide +kernel)) rfl h8 (by omega) hcs rfl rfl kk
theorem r_mmaxl (hK : KC p R s m args meth c ad g tyc own cc nL ret d) {x y : Int64} {idx : Nat} (hd : gd cc pc (.invokestatic idx) 3 pc2) (h1 : Cond.methodLink own idx Lib.MathLoose.max_long.x ∈ gs_tbl) (h2 : Cond.static Lib.MathLoose.max_long.x ∈ gs_tbl) (h3 : Cond.initialized "java/lang/Math" ∈ gs_tbl) (h4 : Cond.code Lib.MathLoose.max_long.x Lib.MathLoose.max_long.code 4 (some .long) ∈ gs_tbl) (h8 : (st.map fun v => v.category).sum ≤ 8) (hdd : 1 ≤ d) (hcs : cells ≤ R.cells ∧ slots ≤ R.slots) (kk : WJ p l e R s m args below meth c cells slots Q ad g tyc nL pc2 ls (.long (if y < x then x else y) :: st) μ) : WJ p l e R s m args below meth c cells slots Q ad g tyc nL pc ls (.long y :: .long x :: st) μ := by
  obtain ⟨hd, rfl⟩ := hd
  obtain ⟨hx, hb, -, -, hml, hown, ht, hW, hf1, hf2⟩ := hK
  exact fun H locs lr hP hS hl => va_mmax_long hx hb (hml.trans hl.1.symm) hown (ht _ h1) (ht _ h2) (ht _ h3) (ht _ h4) (by omega) (by rw [gs_cat]; omega) hcs.1 hcs.2 hd (kk H locs lr hP hS hl)
theorem r_mminl (hK : KC p R s m args meth c ad g tyc own cc nL ret d) {x y : Int64} {idx : Nat} (hd : gd cc pc (.invokestatic idx) 3 pc2) (h1 : Cond.methodLink own idx Lib.MathLoose.min_long.x ∈ gs_tbl) (h2 : Cond.static Lib.MathLoose.min_long.x ∈ gs_tbl) (h3 : Cond.initialized "java/lang/Math" ∈ gs_tbl) (h4 : Cond.code Lib.MathLoose.min_long.x Lib.MathLoose.min_long.code 4 (some .long) ∈ gs_tbl) (h8 : (st.map fun v => v.category).sum ≤ 8) (hdd : 1 ≤ d) (hcs : cells ≤ R.cells ∧ slots ≤ R.slots) (kk : WJ p l e R s m args below meth c cells slots Q ad g tyc nL pc2 ls (.long (if y < x then y else x) :: st) μ) : WJ p l e R s m args below meth c cells slots Q ad g tyc nL pc ls (.long y :: .long x :: st) μ := by
  obtain ⟨hd, rfl⟩ := hd
  obtain ⟨hx, hb, -, -, hml, hown, ht, hW, hf1, hf2⟩ := hK
  exact fun H locs lr hP hS hl => va_mmin_long hx hb (hml.trans hl.1.symm) hown (ht _ h1) (ht _ h2) (ht _ h3) (ht _ h4) (by omega) (by rw [gs_cat]; omega) hcs.1 hcs.2 hd (kk H locs lr hP hS hl)
theorem r_ldcS (hK : KC p R s m args meth c ad g tyc own cc nL ret d) {n b : Nat} {tx : String} (hd : gd cc pc (.ldc n) 2 pc2) (hR : gs_VR ad s → vk_R own n tx (ad b) s) (k : WJ p l e R s m args below meth c cells slots Q ad g tyc nL pc2 ls (.ref b :: st) μ) : WJ p l e R s m args below meth c cells slots Q ad g tyc nL pc ls st μ := by
  obtain ⟨hd, rfl⟩ := hd
  obtain ⟨hx, hb, -, -, -, ho, ht, hW, -⟩ := hK
  exact fun H locs lr hP hS hl => va_ldcS hx hb ho (hR hW.2.2.2.2) hd (k H locs lr hP hS hl)
end GSU
