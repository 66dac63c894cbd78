theorem gs_in {ws : List Cond} (ps : List Nat) (hp : ws = ps.filterMap (fun i => tables_1[i]?)) (hg : ws.all goodWord = true) : ∀ w ∈ ws, w ∈ gs_tbl := by
  intro w hw
  have h1 := List.all_eq_true.mp hg w hw
  rw [hp] at hw
  obtain ⟨i, -, hi⟩ := List.mem_filterMap.mp hw
  exact gs_t i hi h1
theorem gs_u0 : ∀ w ∈ u_ws RX0 TX0 2, w ∈ gs_tbl := gs_in [295, 297] (by decide +kernel) (by decide +kernel)
theorem gs_u1 : ∀ w ∈ u_ws RX1 TX1 14, w ∈ gs_tbl := gs_in [210, 212, 214, 216, 218, 220, 222, 224, 226, 228, 230, 232, 234, 236] (by decide +kernel) (by decide +kernel)
theorem gs_u2 : ∀ w ∈ u_ws RX2 TX2 6, w ∈ gs_tbl := gs_in [73, 75, 77, 67, 69, 71] (by decide +kernel) (by decide +kernel)
theorem gs_u3 : ∀ w ∈ u_ws RX3 TX3 3, w ∈ gs_tbl := gs_in [279, 281, 283] (by decide +kernel) (by decide +kernel)
theorem gs_u4 : ∀ w ∈ u_ws RX5 TX5 5, w ∈ gs_tbl := gs_in [94, 95, 96, 90, 92] (by decide +kernel) (by decide +kernel)
theorem gs_u5 : ∀ w ∈ u_ws RX6 TX6 6, w ∈ gs_tbl := gs_in [136, 138, 140, 142, 144, 146] (by decide +kernel) (by decide +kernel)
theorem gs_u6 : ∀ w ∈ u_ws RX7 TX7 3, w ∈ gs_tbl := gs_in [164, 166, 168] (by decide +kernel) (by decide +kernel)
theorem gs_u7 : ∀ w ∈ u_ws RX8 TX8 2, w ∈ gs_tbl := gs_in [40, 42] (by decide +kernel) (by decide +kernel)
theorem gs_u8 : ∀ w ∈ u_ws RX9 TX9 4, w ∈ gs_tbl := gs_in [109, 111, 113, 115] (by decide +kernel) (by decide +kernel)
theorem gs_u9 : ∀ w ∈ u_ws RX10 TX10 7, w ∈ gs_tbl := gs_in [252, 254, 256, 258, 260, 262, 264] (by decide +kernel) (by decide +kernel)
theorem gs_u10 : ∀ w ∈ u_ws RX11 TX11 20, w ∈ gs_tbl := gs_in [320, 322, 324, 326, 328, 330, 332, 334, 336, 338, 340, 342, 344, 346, 348, 350, 352, 354, 356, 358] (by decide +kernel) (by decide +kernel)
theorem gs_u11 : ∀ w ∈ u_ws RX12 TX12 52, w ∈ gs_tbl := gs_in [1176, 1178, 1180, 1182, 1184, 1186, 1188, 1190, 1192, 1194, 1196, 1198, 1200, 1202, 1204, 1206, 1208, 1210, 1212, 1214, 1216, 1218, 1220, 1222, 1224, 1226, 1228, 1230, 1232, 1234, 1236, 1238, 1240, 1242, 1244, 1246, 1248, 1250, 1252, 1254, 1256, 1258, 1260, 1262, 1264, 1266, 1268, 1270, 1272, 1274, 1276, 1278] (by decide +kernel) (by decide +kernel)
def gs_ty (c : Nat) : Nat → FieldType := match c with
  | 0 => tyX0
  | 1 => tyX1
  | 2 => tyX2
  | 3 => tyX3
  | 4 => tyX5
  | 5 => tyX6
  | 6 => tyX7
  | 7 => tyX8
  | 8 => tyX9
  | 9 => tyX10
  | 10 => tyX11
  | _ => tyX12
def gs_nf : List Nat := [2, 14, 6, 3, 5, 6, 3, 2, 4, 7, 20, 52]
theorem gs_cls : ∀ (ci : Nat) (q : vw_C), vwCl[ci]? = some q → (∀ w ∈ u_ws q.1 q.2.1 q.2.2, w ∈ gs_tbl) ∧ (∀ a, a < q.2.2 → ∀ b, b < q.2.2 → a ≠ b → (q.2.1 a).2.1 ≠ (q.2.1 b).2.1) ∧ (∀ k, k < q.2.2 → parseFieldDescriptor (q.2.1 k).2.2.1 = some (gs_ty ci k))
  | 0, _, rfl => ⟨gs_u0, nmX0, tyX0_ok⟩
  | 1, _, rfl => ⟨gs_u1, nmX1, tyX1_ok⟩
  | 2, _, rfl => ⟨gs_u2, nmX2, tyX2_ok⟩
  | 3, _, rfl => ⟨gs_u3, nmX3, tyX3_ok⟩
  | 4, _, rfl => ⟨gs_u4, nmX5, tyX5_ok⟩
  | 5, _, rfl => ⟨gs_u5, nmX6, tyX6_ok⟩
  | 6, _, rfl => ⟨gs_u6, nmX7, tyX7_ok⟩
  | 7, _, rfl => ⟨gs_u7, nmX8, tyX8_ok⟩
  | 8, _, rfl => ⟨gs_u8, nmX9, tyX9_ok⟩
  | 9, _, rfl => ⟨gs_u9, nmX10, tyX10_ok⟩
  | 10, _, rfl => ⟨gs_u10, nmX11, tyX11_ok⟩
  | 11, _, rfl => ⟨gs_u11, nmX12, tyX12_ok⟩
  | k + 12, q, h => by simp [vwCl] at h
theorem gs_ln : ∀ a, kd a < 12 → ln a = gs_nf.getD (kd a) 0 := by
  have h : ∀ a, a < 99 → kd a < 12 → ln a = gs_nf.getD (kd a) 0 := by decide +kernel
  intro a ha
  exact h a (kd_lt (by omega)) ha
theorem gs_nfq : ∀ (ci : Nat) (q : vw_C), vwCl[ci]? = some q → ci < 12 ∧ q.2.2 = gs_nf.getD ci 0
  | 0, _, rfl => ⟨by decide, rfl⟩
  | 1, _, rfl => ⟨by decide, rfl⟩
  | 2, _, rfl => ⟨by decide, rfl⟩
  | 3, _, rfl => ⟨by decide, rfl⟩
  | 4, _, rfl => ⟨by decide, rfl⟩
  | 5, _, rfl => ⟨by decide, rfl⟩
  | 6, _, rfl => ⟨by decide, rfl⟩
  | 7, _, rfl => ⟨by decide, rfl⟩
  | 8, _, rfl => ⟨by decide, rfl⟩
  | 9, _, rfl => ⟨by decide, rfl⟩
  | 10, _, rfl => ⟨by decide, rfl⟩
  | 11, _, rfl => ⟨by decide, rfl⟩
  | k + 12, q, h => by simp [vwCl] at h
theorem gs_tyk : ∀ ci, ci < 12 → ∀ k, k < gs_nf.getD ci 0 → (fk ci k = 0 → gs_ty ci k = .int) ∧ (fk ci k = 1 → gs_ty ci k = .long) ∧ (fk ci k = 3 → gs_ty ci k = .array .byte) ∧ (fk ci k = 4 → gs_ty ci k = .boolean) := by decide +kernel
theorem gs_obj {ad : Nat → Nat} {tyc : Nat → ClassId} {μ : gs_M} {a ci : Nat} (ha : kd a = ci) (hc : ci < 12) : gs_cell ad tyc μ a = .inr (ci, (List.range (ln a)).map (gs_fv ad μ ci a)) := by
  unfold gs_cell
  split
  all_goals first | omega | (rw [ha])
theorem gs_fld {ad : Nat → Nat} {μ : gs_M} {ci a n k : Nat} (hk : k < n) : ((List.range n).map (gs_fv ad μ ci a))[k]? = some (gs_fv ad μ ci a k) := by
  rw [List.getElem?_map, List.getElem?_range hk]; rfl
theorem gs_mapset {f f' : Nat → Value} {n k : Nat} {x : Value} (h1 : f' k = x) (h2 : ∀ j, j ≠ k → f' j = f j) : ((List.range n).map f).set k x = (List.range n).map f' := by
  apply List.ext_getElem?
  intro j
  by_cases hj : j = k
  · subst hj
    by_cases hl : j < n
    · rw [List.getElem?_set_self (by simpa using hl), List.getElem?_map, List.getElem?_range hl, ← h1]; rfl
    · rw [List.getElem?_eq_none (by simp; omega), List.getElem?_eq_none (by simp; omega)]
  · rw [List.getElem?_set_ne (Ne.symm hj), List.getElem?_map, List.getElem?_map]
    by_cases hl : j < n
    · rw [List.getElem?_range hl, Option.map_some, Option.map_some, h2 j hj]
    · rw [List.getElem?_eq_none (by simp; omega)]; rfl
theorem gI_sI {μ : gs_M} {a k b j : Nat} {v : Int32} : gI (sI μ a k v) b j = if b = a ∧ j = k then v else gI μ b j := by
  unfold gI sI upd
  by_cases h : b = a
  · subst h
    by_cases h2 : j = k <;> simp [h2]
  · simp [h]
theorem gL_sI {μ : gs_M} {a k b j : Nat} {v : Int32} : gL (sI μ a k v) b j = gL μ b j := rfl
theorem gI_sL {μ : gs_M} {a k b j : Nat} {v : Int64} : gI (sL μ a k v) b j = gI μ b j := rfl
theorem gL_sL {μ : gs_M} {a k b j : Nat} {v : Int64} : gL (sL μ a k v) b j = if b = a ∧ j = k then v else gL μ b j := by
  unfold gL sL vp_updL
  by_cases h : b = a
  · subst h
    by_cases h2 : j = k <;> simp [h2]
  · simp [h]
/-- a field's link in the pool of a class: the words, the class, the field -/
def gs_FL (own : String) (idx : Nat) (ref : String) (ci k : Nat) (q : vw_C) : Prop := vwCl[ci]? = some q ∧ k < q.2.2 ∧ Cond.fieldLink own idx ref (q.2.1 k).2.1 (q.2.1 k).2.2.1 ∈ gs_tbl ∧ (ref = (q.2.1 k).1 ∨ Cond.sameField ref (q.2.1 k).1 (q.2.1 k).2.1 (q.2.1 k).2.2.1 ∈ gs_tbl)
def gs_NL (own : String) (idx k : Nat) (n d : String) : Prop := Cond.fieldLinkNest own idx "GrainShift" n d "GrainShift" ∈ gs_nest
/-- a method's own facts -/
def gs_MF (y : MethodName) (cc : ByteArray) (nL : Nat) (ret : Option FieldType) (n : Nat) : Prop := Cond.code y cc nL ret ∈ gs_tbl ∧ Cond.initialized y.cls ∈ gs_tbl ∧ y.cls ≠ "java/lang/invoke/MethodHandle" ∧ y.cls ≠ "java/lang/invoke/VarHandle" ∧ (parseMethodDescriptor y.desc).map (fun d => d.parameters.length) = some n ∧ nL ≤ 45 ∧ plainName y.cls = true
def gs_Q (ad : Nat → Nat) (g : va_G) (tyc : Nat → ClassId) (o : Option Value) (μ : gs_M) : Array Value → State → Outcome → State → Prop := fun _ st oc t => oc = .returned (o.map (vr ad)) ∧ va_P g vwCl (gs_ws ad tyc μ) t.heap ∧ va_F (gs_A ad) st t
def gs_rm (d : Nat) : Room := { frames := d, cells := 0, slots := 0, locals := d * 64 }
def gs_Pc (ad : Nat → Nat) (g : va_G) (tyc : Nat → ClassId) (av : List Value) (μ : gs_M) : Array Value → State → Prop := va_Pc (av.map (vr ad)) (fun U => va_P g vwCl (gs_ws ad tyc μ) U.heap ∧ gs_WU ad g tyc U)
/-- a call's contract: with these values and this memory the method answers o and leaves μ2 -/
def CALL (y : MethodName) (cc : ByteArray) (nL : Nat) (ret : Option FieldType) (d : Nat) (av : List Value) (μ : gs_M) (o : Option Value) (μ2 : gs_M) : Prop := ∀ (l : Launch) (ad : Nat → Nat) (g : va_G) (tyc : Nat → ClassId), Met l y (Cond.code y cc nL ret :: gs_tbl) (gs_rm d) (gs_Pc ad g tyc av μ) (gs_Q ad g tyc o μ2) 0 0 (gs_A ad)
theorem gs_blind {ad : Nat → Nat} {g : va_G} {tyc : Nat → ClassId} {av : List Value} {μ : gs_M} : FrameBlind (gs_Pc ad g tyc av μ) := fun _ _ _ _ q => ⟨q.1, q.2.1, q.2.2.calling⟩
theorem gs_goodc {y : MethodName} {cc : ByteArray} {nL : Nat} {ret : Option FieldType} (h : Cond.code y cc nL ret ∈ gs_tbl) : GoodIn gs_tbl (Cond.code y cc nL ret :: gs_tbl) := gs_sub (fun w hw => by
  rcases List.mem_cons.mp hw with rfl | hw
  · exact h
  · exact hw)
section GSH
variable {p : Program} {l : Launch} {e : Env} {R : Room} {s : State} {m : MethodId} {args : Array Value} {below : List Frame} {meth : Method} {c : Code} {cells slots : Nat} {Q : State → Prop}
variable {ad : Nat → Nat} {g : va_G} {tyc : Nat → ClassId} {own : String} {cc : ByteArray} {nL : Nat} {ret : Option FieldType} {d : Nat}
variable {pc pc2 : Nat} {ls : List Value} {st : List Value} {μ : gs_M}
theorem gs_getf (hK : KC p R s m args meth c ad g tyc own cc nL ret d) {idx ci k a : Nat} {ref : String} {q : vw_C} (hd : gd cc pc (.getfield idx) 3 pc2) (hf : gs_FL own idx ref ci k q) (ha : kd a = ci) {v : Value} (hv : gs_fv ad μ ci a k = vr ad v) (kk : WJ p l e R s m args below meth c cells slots Q ad g tyc nL pc2 ls (v :: st) μ) : WJ p l e R s m args below meth c cells slots Q ad g tyc nL pc ls (.ref a :: st) μ := by
  obtain ⟨hd, rfl⟩ := hd
  obtain ⟨hx, hb, -, -, -, ho, ht, hW, -⟩ := hK
  obtain ⟨hq, hk, hl1, hsm⟩ := hf
  obtain ⟨hci, hnf⟩ := gs_nfq ci q hq
  intro H locs lr hP hS hl
  have hlt : a < 99 := kd_lt (by omega)
  have he := gs_get (ad := ad) (tyc := tyc) (μ := μ) hlt
  rw [gs_obj ha hci] at he
  have hkl : k < ln a := by rw [gs_ln a (by omega), ha, ← hnf]; exact hk
  exact va_get (v := vr ad v) hx hb ht (gs_cls ci q hq).1 ho hW.1 hP a he hq k hk (ht _ hl1) (fun x h => hsm.elim (fun e => by rw [e]; exact h) (fun h2 => u_same (ht _ h2) x h)) (by rw [gs_fld hkl, hv]) hd (kk H locs lr hP hS hl)
theorem gs_putf (hK : KC p R s m args meth c ad g tyc own cc nL ret d) {idx ci k a : Nat} {ref : String} {q : vw_C} {μ2 : gs_M} (hd : gd cc pc (.putfield idx) 3 pc2) (hf : gs_FL own idx ref ci k q) (hfin : (q.2.1 k).2.2.2 = false) (ha : kd a = ci) {v : Value} (h1 : ∀ b, b ≠ a → μ2.1 b = μ.1 b) (h2 : ∀ b, b ≠ a → μ2.2 b = μ.2 b) (hv : gs_fv ad μ2 ci a k = vr ad v) (ho : ∀ j, j ≠ k → gs_fv ad μ2 ci a j = gs_fv ad μ ci a j) (hn : narrow (gs_ty ci k) (vr ad v) = vr ad v) (hfit : fits (gs_ty ci k) (vr ad v) = true) (kk : WJ p l e R s m args below meth c cells slots Q ad g tyc nL pc2 ls (st) μ2) : WJ p l e R s m args below meth c cells slots Q ad g tyc nL pc ls (v :: .ref a :: st) μ := by
  obtain ⟨hd, rfl⟩ := hd
  obtain ⟨hx, hb, -, -, -, hown, ht, hW, -⟩ := hK
  obtain ⟨hq, hk, hl1, hsm⟩ := hf
  obtain ⟨hci, hnf⟩ := gs_nfq ci q hq
  obtain ⟨c1, c2, c3⟩ := gs_cls ci q hq
  intro H locs lr hP hS hl
  have hlt : a < 99 := kd_lt (by omega)
  have he := gs_get (ad := ad) (tyc := tyc) (μ := μ) hlt
  rw [gs_obj ha hci] at he
  have hkl : k < ln a := by rw [gs_ln a (by omega), ha, ← hnf]; exact hk
  refine va_put (v := vr ad v) hx hb ht c1 (gs_ty ci) c3 c2 hown hW.1 hP (gs_D hW.2.2.2.1) hS a he hq k hk (ht _ hl1) (fun x h => hsm.elim (fun e => by rw [e]; exact h) (fun h2 => u_same (ht _ h2) x h)) hfin (c3 k hk) hn hfit (by simpa using hkl) hd (fun H1 locs1 hP1 _ hS1 => kk H1 locs1 lr ?_ hS1 hl)
  rw [gs_mapset hv ho, ← gs_obj (tyc := tyc) ha hci, gs_set hlt h1 h2] at hP1
  exact hP1
theorem r_getI (hK : KC p R s m args meth c ad g tyc own cc nL ret d) {idx ci k a : Nat} {ref : String} {q : vw_C} (hd : gd cc pc (.getfield idx) 3 pc2) (hf : gs_FL own idx ref ci k q) (h0 : fk ci k = 0) (ha : kd a = ci) (kk : WJ p l e R s m args below meth c cells slots Q ad g tyc nL pc2 ls (.int (gI μ a k) :: st) μ) : WJ p l e R s m args below meth c cells slots Q ad g tyc nL pc ls (.ref a :: st) μ :=
  gs_getf hK hd hf ha (v := .int (gI μ a k)) (by unfold gs_fv; rw [h0]; rfl) kk
theorem r_getZ (hK : KC p R s m args meth c ad g tyc own cc nL ret d) {idx ci k a : Nat} {ref : String} {q : vw_C} (hd : gd cc pc (.getfield idx) 3 pc2) (hf : gs_FL own idx ref ci k q) (h0 : fk ci k = 4) (ha : kd a = ci) (kk : WJ p l e R s m args below meth c cells slots Q ad g tyc nL pc2 ls (.int (gI μ a k) :: st) μ) : WJ p l e R s m args below meth c cells slots Q ad g tyc nL pc ls (.ref a :: st) μ :=
  gs_getf hK hd hf ha (v := .int (gI μ a k)) (by unfold gs_fv; rw [h0]; rfl) kk
theorem r_getL (hK : KC p R s m args meth c ad g tyc own cc nL ret d) {idx ci k a : Nat} {ref : String} {q : vw_C} (hd : gd cc pc (.getfield idx) 3 pc2) (hf : gs_FL own idx ref ci k q) (h0 : fk ci k = 1) (ha : kd a = ci) (kk : WJ p l e R s m args below meth c cells slots Q ad g tyc nL pc2 ls (.long (gL μ a k) :: st) μ) : WJ p l e R s m args below meth c cells slots Q ad g tyc nL pc ls (.ref a :: st) μ :=
  gs_getf hK hd hf ha (v := .long (gL μ a k)) (by unfold gs_fv; rw [h0]; rfl) kk
theorem r_getR (hK : KC p R s m args meth c ad g tyc own cc nL ret d) {idx ci k a : Nat} {ref : String} {q : vw_C} (hd : gd cc pc (.getfield idx) 3 pc2) (hf : gs_FL own idx ref ci k q) (h0 : fk ci k = 2) (ha : kd a = ci) (kk : WJ p l e R s m args below meth c cells slots Q ad g tyc nL pc2 ls (.ref (R0 a k) :: st) μ) : WJ p l e R s m args below meth c cells slots Q ad g tyc nL pc ls (.ref a :: st) μ :=
  gs_getf hK hd hf ha (v := .ref (R0 a k)) (by unfold gs_fv; rw [h0]; rfl) kk
theorem r_getM (hK : KC p R s m args meth c ad g tyc own cc nL ret d) {idx ci k a : Nat} {ref : String} {q : vw_C} (hd : gd cc pc (.getfield idx) 3 pc2) (hf : gs_FL own idx ref ci k q) (h0 : fk ci k = 3) (ha : kd a = ci) (kk : WJ p l e R s m args below meth c cells slots Q ad g tyc nL pc2 ls (.ref (gI μ a k).toNatClampNeg :: st) μ) : WJ p l e R s m args below meth c cells slots Q ad g tyc nL pc ls (.ref a :: st) μ :=
  gs_getf hK hd hf ha (v := .ref (gI μ a k).toNatClampNeg) (by unfold gs_fv; rw [h0]; rfl) kk
theorem gs_nz {v : Int32} (hz : v = 0 ∨ v = 1) : narrow .boolean (.int v) = .int v ∧ fits .boolean (.int v) = true := by rcases hz with rfl | rfl <;> decide +kernel
theorem gs_fvsI {a k j ci : Nat} {v : Int32} (h : j ≠ k) : gs_fv ad (sI μ a k v) ci a j = gs_fv ad μ ci a j := by
  have e1 : gI (sI μ a k v) a j = gI μ a j := by rw [gI_sI, if_neg (fun q => h q.2)]
  unfold gs_fv
  rw [e1]
  rfl
theorem gs_fvsL {a k j ci : Nat} {v : Int64} (h : j ≠ k) : gs_fv ad (sL μ a k v) ci a j = gs_fv ad μ ci a j := by
  have e1 : gL (sL μ a k v) a j = gL μ a j := by rw [gL_sL, if_neg (fun q => h q.2)]
  unfold gs_fv
  rw [e1]
  rfl
theorem gs_s1 {a k : Nat} {v : Int32} : ∀ b, b ≠ a → (sI μ a k v).1 b = μ.1 b := fun b h => if_neg h
theorem gs_s2 {a k : Nat} {v : Int64} : ∀ b, b ≠ a → (sL μ a k v).2 b = μ.2 b := fun b h => if_neg h
theorem r_putI (hK : KC p R s m args meth c ad g tyc own cc nL ret d) {idx ci k a : Nat} {ref : String} {q : vw_C} {v : Int32} (hd : gd cc pc (.putfield idx) 3 pc2) (hf : gs_FL own idx ref ci k q) (hfin : (q.2.1 k).2.2.2 = false) (h0 : fk ci k = 0) (ha : kd a = ci) (kk : WJ p l e R s m args below meth c cells slots Q ad g tyc nL pc2 ls (st) (sI μ a k v)) : WJ p l e R s m args below meth c cells slots Q ad g tyc nL pc ls (.int v :: .ref a :: st) μ := by
  obtain ⟨hci, hnf⟩ := gs_nfq ci q hf.1
  have ht := (gs_tyk ci hci k (hnf ▸ hf.2.1)).1 h0
  refine gs_putf hK hd hf hfin ha gs_s1 (fun _ _ => rfl) (v := .int v) ?_ (fun j hj => gs_fvsI hj) (by rw [ht]; rfl) (by rw [ht]; rfl) kk
  unfold gs_fv
  rw [h0, gI_sI, if_pos ⟨rfl, rfl⟩]
  rfl
theorem r_putZ (hK : KC p R s m args meth c ad g tyc own cc nL ret d) {idx ci k a : Nat} {ref : String} {q : vw_C} {v : Int32} (hd : gd cc pc (.putfield idx) 3 pc2) (hf : gs_FL own idx ref ci k q) (hfin : (q.2.1 k).2.2.2 = false) (h0 : fk ci k = 4) (ha : kd a = ci) (hz : v = 0 ∨ v = 1) (kk : WJ p l e R s m args below meth c cells slots Q ad g tyc nL pc2 ls (st) (sI μ a k v)) : WJ p l e R s m args below meth c cells slots Q ad g tyc nL pc ls (.int v :: .ref a :: st) μ := by
  obtain ⟨hci, hnf⟩ := gs_nfq ci q hf.1
  have ht := (gs_tyk ci hci k (hnf ▸ hf.2.1)).2.2.2 h0
  refine gs_putf hK hd hf hfin ha gs_s1 (fun _ _ => rfl) (v := .int v) ?_ (fun j hj => gs_fvsI hj) (by rw [ht]; exact (gs_nz hz).1) (by rw [ht]; exact (gs_nz hz).2) kk
  unfold gs_fv
  rw [h0, gI_sI, if_pos ⟨rfl, rfl⟩]
  rfl
theorem r_putL (hK : KC p R s m args meth c ad g tyc own cc nL ret d) {idx ci k a : Nat} {ref : String} {q : vw_C} {v : Int64} (hd : gd cc pc (.putfield idx) 3 pc2) (hf : gs_FL own idx ref ci k q) (hfin : (q.2.1 k).2.2.2 = false) (h0 : fk ci k = 1) (ha : kd a = ci) (kk : WJ p l e R s m args below meth c cells slots Q ad g tyc nL pc2 ls (st) (sL μ a k v)) : WJ p l e R s m args below meth c cells slots Q ad g tyc nL pc ls (.long v :: .ref a :: st) μ := by
  obtain ⟨hci, hnf⟩ := gs_nfq ci q hf.1
  have ht := (gs_tyk ci hci k (hnf ▸ hf.2.1)).2.1 h0
  refine gs_putf (μ2 := sL μ a k v) hK hd hf hfin ha (fun _ _ => rfl) gs_s2 (v := .long v) ?_ (fun j hj => gs_fvsL hj) (by rw [ht]; rfl) (by rw [ht]; rfl) kk
  unfold gs_fv
  rw [h0, gL_sL, if_pos ⟨rfl, rfl⟩]
  rfl
theorem r_putM (hK : KC p R s m args meth c ad g tyc own cc nL ret d) {idx ci k a b : Nat} {ref : String} {q : vw_C} (hd : gd cc pc (.putfield idx) 3 pc2) (hf : gs_FL own idx ref ci k q) (hfin : (q.2.1 k).2.2.2 = false) (h0 : fk ci k = 3) (ha : kd a = ci) (hb9 : b < 2 ^ 31) (kk : WJ p l e R s m args below meth c cells slots Q ad g tyc nL pc2 ls (st) (sI μ a k (nI b))) : WJ p l e R s m args below meth c cells slots Q ad g tyc nL pc ls (.ref b :: .ref a :: st) μ := by
  obtain ⟨hci, hnf⟩ := gs_nfq ci q hf.1
  have ht := (gs_tyk ci hci k (hnf ▸ hf.2.1)).2.2.1 h0
  refine gs_putf hK hd hf hfin ha gs_s1 (fun _ _ => rfl) (v := .ref b) ?_ (fun j hj => gs_fvsI hj) (by rw [ht]; rfl) (by rw [ht]; rfl) kk
  unfold gs_fv
  rw [h0, gI_sI, if_pos ⟨rfl, rfl⟩]
  show Value.ref (ad (nI b).toNatClampNeg) = _
  rw [nI_clamp hb9]
  rfl
theorem gs_arr {a k t : Nat} {x : vp_A} (ha : kd a = k) (he : gs_cell ad tyc μ a = .inl (tyc t, x)) (hk : k ≠ 99) : (gs_ws ad tyc μ)[a]? = some (ad a, .inl (tyc t, x)) := by
  rw [gs_get (kd_lt (by rw [ha]; exact hk)), he]
theorem gs_c20 {a : Nat} (ha : kd a = 20) : gs_cell ad tyc μ a = .inl (tyc 0, ln a, .inl (μ.1 a)) := by
  unfold gs_cell; rw [ha]; rfl
theorem gs_a20 {a : Nat} (ha : kd a = 20) : (gs_ws ad tyc μ)[a]? = some (ad a, .inl (tyc 0, ln a, .inl (μ.1 a))) := gs_arr ha (gs_c20 ha) (by decide)
theorem gs_c21 {a : Nat} (ha : kd a = 21) : gs_cell ad tyc μ a = .inl (tyc 1, ln a, .inl (μ.1 a)) := by
  unfold gs_cell; rw [ha]; rfl
theorem gs_a21 {a : Nat} (ha : kd a = 21) : (gs_ws ad tyc μ)[a]? = some (ad a, .inl (tyc 1, ln a, .inl (μ.1 a))) := gs_arr ha (gs_c21 ha) (by decide)
theorem gs_c22 {a : Nat} (ha : kd a = 22) : gs_cell ad tyc μ a = .inl (tyc 2, ln a, .inr (.inl (μ.2 a))) := by
  unfold gs_cell; rw [ha]; rfl
theorem gs_a22 {a : Nat} (ha : kd a = 22) : (gs_ws ad tyc μ)[a]? = some (ad a, .inl (tyc 2, ln a, .inr (.inl (μ.2 a)))) := gs_arr ha (gs_c22 ha) (by decide)
theorem gs_c23 {a : Nat} (ha : kd a = 23) : gs_cell ad tyc μ a = .inl (tyc 3, ln a, .inr (.inr (.inr (.inr (fun i => some (ad (R0 a i))))))) := by
  unfold gs_cell; rw [ha]; rfl
theorem gs_a23 {a : Nat} (ha : kd a = 23) : (gs_ws ad tyc μ)[a]? = some (ad a, .inl (tyc 3, ln a, .inr (.inr (.inr (.inr (fun i => some (ad (R0 a i)))))))) := gs_arr ha (gs_c23 ha) (by decide)
theorem gs_c24 {a : Nat} (ha : kd a = 24) : gs_cell ad tyc μ a = .inl (tyc 4, ln a, .inr (.inr (.inr (.inr (fun i => some (ad (R0 a i))))))) := by
  unfold gs_cell; rw [ha]; rfl
theorem gs_a24 {a : Nat} (ha : kd a = 24) : (gs_ws ad tyc μ)[a]? = some (ad a, .inl (tyc 4, ln a, .inr (.inr (.inr (.inr (fun i => some (ad (R0 a i)))))))) := gs_arr ha (gs_c24 ha) (by decide)
theorem gs_c25 {a : Nat} (ha : kd a = 25) : gs_cell ad tyc μ a = .inl (tyc 5, ln a, .inr (.inr (.inr (.inr (fun i => some (ad (R0 a i))))))) := by
  unfold gs_cell; rw [ha]; rfl
theorem gs_a25 {a : Nat} (ha : kd a = 25) : (gs_ws ad tyc μ)[a]? = some (ad a, .inl (tyc 5, ln a, .inr (.inr (.inr (.inr (fun i => some (ad (R0 a i)))))))) := gs_arr ha (gs_c25 ha) (by decide)
theorem r_iald (hK : KC p R s m args meth c ad g tyc own cc nL ret d) {a n : Nat} {i : Int32} (hd : gd cc pc .iaload 1 pc2) (ha : kd a = 20) (hn : ln a = n) (hi : vp_in i n) (kk : WJ p l e R s m args below meth c cells slots Q ad g tyc nL pc2 ls (.int (gI μ a i.toNatClampNeg) :: st) μ) : WJ p l e R s m args below meth c cells slots Q ad g tyc nL pc ls (.int i :: .ref a :: st) μ := by
  obtain ⟨hd, rfl⟩ := hd
  subst hn
  obtain ⟨hx, hb, -, -, -, -, -, hW, -⟩ := hK
  exact fun H locs lr hP hS hl => va_iald hx hb hW.1 hP a 0 (gs_a20 ha) rfl hi hd (kk H locs lr hP hS hl)
theorem r_iast (hK : KC p R s m args meth c ad g tyc own cc nL ret d) {a n : Nat} {i x : Int32} (hd : gd cc pc .iastore 1 pc2) (ha : kd a = 20) (hn : ln a = n) (hi : vp_in i n) (kk : WJ p l e R s m args below meth c cells slots Q ad g tyc nL pc2 ls (st) (sI μ a i.toNatClampNeg x)) : WJ p l e R s m args below meth c cells slots Q ad g tyc nL pc ls (.int x :: .int i :: .ref a :: st) μ := by
  obtain ⟨hd, rfl⟩ := hd
  subst hn
  obtain ⟨hx, hb, -, -, -, -, -, hW, -⟩ := hK
  refine fun H locs lr hP hS hl => va_iast hx hb hW.1 hP (gs_D hW.2.2.2.1) hS a 0 (gs_a20 ha) rfl hi hd (fun H1 locs1 hP1 _ hS1 => kk H1 locs1 lr ?_ hS1 hl)
  rw [show (Sum.inl (tyc 0, ln a, Sum.inl (upd (μ.1 a) i.toNatClampNeg x)) : va_E) = gs_cell ad tyc (sI μ a i.toNatClampNeg x) a by rw [gs_c20 ha]; show _ = (Sum.inl (tyc 0, ln a, Sum.inl (if a = a then upd (μ.1 a) i.toNatClampNeg x else μ.1 a)) : va_E); rw [if_pos rfl], gs_set (kd_lt (by rw [ha]; decide)) gs_s1 (fun _ _ => rfl)] at hP1
  exact hP1
theorem r_bald (hK : KC p R s m args meth c ad g tyc own cc nL ret d) {a n : Nat} {i : Int32} (hd : gd cc pc .baload 1 pc2) (ha : kd a = 21) (hn : ln a = n) (hi : vp_in i n) (kk : WJ p l e R s m args below meth c cells slots Q ad g tyc nL pc2 ls (.int (gI μ a i.toNatClampNeg) :: st) μ) : WJ p l e R s m args below meth c cells slots Q ad g tyc nL pc ls (.int i :: .ref a :: st) μ := by
  obtain ⟨hd, rfl⟩ := hd
  subst hn
  obtain ⟨hx, hb, -, -, -, -, -, hW, -⟩ := hK
  exact fun H locs lr hP hS hl => va_bald hx hb hW.1 hP a 1 (gs_a21 ha) rfl hi hd (kk H locs lr hP hS hl)
theorem r_bast (hK : KC p R s m args meth c ad g tyc own cc nL ret d) {a n : Nat} {i x : Int32} (hd : gd cc pc .bastore 1 pc2) (ha : kd a = 21) (hn : ln a = n) (hi : vp_in i n) (kk : WJ p l e R s m args below meth c cells slots Q ad g tyc nL pc2 ls (st) (sI μ a i.toNatClampNeg (vp_nar .byte x))) : WJ p l e R s m args below meth c cells slots Q ad g tyc nL pc ls (.int x :: .int i :: .ref a :: st) μ := by
  obtain ⟨hd, rfl⟩ := hd
  subst hn
  obtain ⟨hx, hb, -, -, -, -, -, hW, -⟩ := hK
  refine fun H locs lr hP hS hl => va_bast hx hb hW.1 hP (gs_D hW.2.2.2.1) hS a 1 (gs_a21 ha) rfl hi hd (fun H1 locs1 hP1 _ hS1 => kk H1 locs1 lr ?_ hS1 hl)
  rw [show (Sum.inl (tyc 1, ln a, Sum.inl (upd (μ.1 a) i.toNatClampNeg (vp_nar .byte x))) : va_E) = gs_cell ad tyc (sI μ a i.toNatClampNeg (vp_nar .byte x)) a by rw [gs_c21 ha]; show _ = (Sum.inl (tyc 1, ln a, Sum.inl (if a = a then upd (μ.1 a) i.toNatClampNeg (vp_nar .byte x) else μ.1 a)) : va_E); rw [if_pos rfl], gs_set (kd_lt (by rw [ha]; decide)) gs_s1 (fun _ _ => rfl)] at hP1
  exact hP1
theorem r_aaldH (hK : KC p R s m args meth c ad g tyc own cc nL ret d) {a n : Nat} {i : Int32} (hd : gd cc pc .aaload 1 pc2) (ha : kd a = 23) (hn : ln a = n) (hi : vp_in i n) (kk : WJ p l e R s m args below meth c cells slots Q ad g tyc nL pc2 ls (.ref (R0 a i.toNatClampNeg) :: st) μ) : WJ p l e R s m args below meth c cells slots Q ad g tyc nL pc ls (.int i :: .ref a :: st) μ := by
  obtain ⟨hd, rfl⟩ := hd
  subst hn
  obtain ⟨hx, hb, -, -, -, -, -, hW, -⟩ := hK
  intro H locs lr hP hS hl
  have hlt : i.toNatClampNeg < ln a := Nat.not_le.mp fun q => hi (Or.inr q)
  exact W.aald (v := .ref (ad (R0 a i.toNatClampNeg))) (ty := .object "GrainShift$Hold") hx hb (hP a _ (gs_a23 ha)) ((hW.1.2 3 _ rfl).1 (ln a) (fun j => va_rf (some (ad (R0 a j))))) rfl (fun q => by cases q) (by show ¬ (i < 0 ∨ (arrV _ _ _).slots.size ≤ _); rw [arrV_size]; exact hi) (by show (arrV _ _ _).slots[_]? = _; rw [arrV_read _ _ hlt]; rfl) rfl rfl hd (kk H locs lr hP hS hl)
theorem r_aaldJ (hK : KC p R s m args meth c ad g tyc own cc nL ret d) {a n : Nat} {i : Int32} (hd : gd cc pc .aaload 1 pc2) (ha : kd a = 24) (hn : ln a = n) (hi : vp_in i n) (kk : WJ p l e R s m args below meth c cells slots Q ad g tyc nL pc2 ls (.ref (R0 a i.toNatClampNeg) :: st) μ) : WJ p l e R s m args below meth c cells slots Q ad g tyc nL pc ls (.int i :: .ref a :: st) μ := by
  obtain ⟨hd, rfl⟩ := hd
  subst hn
  obtain ⟨hx, hb, -, -, -, -, -, hW, -⟩ := hK
  intro H locs lr hP hS hl
  have hlt : i.toNatClampNeg < ln a := Nat.not_le.mp fun q => hi (Or.inr q)
  exact W.aald (v := .ref (ad (R0 a i.toNatClampNeg))) (ty := .array .int) hx hb (hP a _ (gs_a24 ha)) ((hW.1.2 4 _ rfl).1 (ln a) (fun j => va_rf (some (ad (R0 a j))))) rfl (fun q => by cases q) (by show ¬ (i < 0 ∨ (arrV _ _ _).slots.size ≤ _); rw [arrV_size]; exact hi) (by show (arrV _ _ _).slots[_]? = _; rw [arrV_read _ _ hlt]; rfl) rfl rfl hd (kk H locs lr hP hS hl)
theorem r_aaldS (hK : KC p R s m args meth c ad g tyc own cc nL ret d) {a n : Nat} {i : Int32} (hd : gd cc pc .aaload 1 pc2) (ha : kd a = 25) (hn : ln a = n) (hi : vp_in i n) (kk : WJ p l e R s m args below meth c cells slots Q ad g tyc nL pc2 ls (.ref (R0 a i.toNatClampNeg) :: st) μ) : WJ p l e R s m args below meth c cells slots Q ad g tyc nL pc ls (.int i :: .ref a :: st) μ := by
  obtain ⟨hd, rfl⟩ := hd
  subst hn
  obtain ⟨hx, hb, -, -, -, -, -, hW, -⟩ := hK
  intro H locs lr hP hS hl
  have hlt : i.toNatClampNeg < ln a := Nat.not_le.mp fun q => hi (Or.inr q)
  exact W.aald (v := .ref (ad (R0 a i.toNatClampNeg))) (ty := .object "java/lang/String") hx hb (hP a _ (gs_a25 ha)) ((hW.1.2 5 _ rfl).1 (ln a) (fun j => va_rf (some (ad (R0 a j))))) rfl (fun q => by cases q) (by show ¬ (i < 0 ∨ (arrV _ _ _).slots.size ≤ _); rw [arrV_size]; exact hi) (by show (arrV _ _ _).slots[_]? = _; rw [arrV_read _ _ hlt]; rfl) rfl rfl hd (kk H locs lr hP hS hl)
theorem r_alen (hK : KC p R s m args meth c ad g tyc own cc nL ret d) {a n : Nat} {v : Int32} (hd : gd cc pc .arraylength 1 pc2) (ha : kd a = 20) (hn : ln a = n) (hv : Int32.ofNat n = v) (kk : WJ p l e R s m args below meth c cells slots Q ad g tyc nL pc2 ls (.int v :: st) μ) : WJ p l e R s m args below meth c cells slots Q ad g tyc nL pc ls (.ref a :: st) μ := by
  obtain ⟨hd, rfl⟩ := hd
  subst hn
  obtain ⟨hx, hb, -, -, -, -, -, hW, -⟩ := hK
  exact fun H locs lr hP hS hl => va_alen (x := (ln a, .inl (μ.1 a))) hx hb hW.1 hP a 0 (gs_a20 ha) rfl hv hd (kk H locs lr hP hS hl)
theorem r_gets (hK : KC p R s m args meth c ad g tyc own cc nL ret d) {idx k N : Nat} {ty : FieldType} {n dd : String} (hd : gd cc pc (.getstatic idx) 3 pc2) (hn : Cond.fieldLinkNest own idx "GrainShift" n dd "GrainShift" ∈ gs_nest) (ho : ∀ (U : State) (H : Heap), gs_Old ad U H → gs_st ad U H k N ty n dd) (kk : WJ p l e R s m args below meth c cells slots Q ad g tyc nL pc2 ls (.ref (100 + k) :: st) μ) : WJ p l e R s m args below meth c cells slots Q ad g tyc nL pc ls (st) μ := by
  obtain ⟨hd, rfl⟩ := hd
  obtain ⟨hx, hb, -, -, -, hown, ht, hW, -⟩ := hK
  exact fun H locs lr hP hS hl => va_getsN hx hb (ho _ _ hW.2.2.1).1 hS hown (va_Nw.use rfl (hW.2.1 _ hn)) (fun _ h => h) hd (kk H locs lr hP hS hl)
theorem r_tc (hK : KC p R s m args meth c ad g tyc own cc nL ret d) {k N : Nat} {i : Int32} {n dd : String} (hd : gd cc pc .caload 1 pc2) (ho : ∀ (U : State) (H : Heap), gs_Old ad U H → gs_st ad U H k N .char n dd) (hi : vp_in i N) (kk : WJ p l e R s m args below meth c cells slots Q ad g tyc nL pc2 ls (.int (cA k i.toNatClampNeg) :: st) μ) : WJ p l e R s m args below meth c cells slots Q ad g tyc nL pc ls (.int i :: .ref (100 + k) :: st) μ := by
  obtain ⟨hd, rfl⟩ := hd
  obtain ⟨hx, hb, -, -, -, hown, ht, hW, -⟩ := hK
  exact fun H locs lr hP hS hl => va_tc hx hb (ho _ _ hW.2.2.1).2 hS hi rfl hd (kk H locs lr hP hS hl)
theorem r_ti (hK : KC p R s m args meth c ad g tyc own cc nL ret d) {k N : Nat} {i : Int32} {n dd : String} (hd : gd cc pc .iaload 1 pc2) (ho : ∀ (U : State) (H : Heap), gs_Old ad U H → gs_st ad U H k N .int n dd) (hi : vp_in i N) (kk : WJ p l e R s m args below meth c cells slots Q ad g tyc nL pc2 ls (.int (cA k i.toNatClampNeg) :: st) μ) : WJ p l e R s m args below meth c cells slots Q ad g tyc nL pc ls (.int i :: .ref (100 + k) :: st) μ := by
  obtain ⟨hd, rfl⟩ := hd
  obtain ⟨hx, hb, -, -, -, hown, ht, hW, -⟩ := hK
  exact fun H locs lr hP hS hl => va_ti hx hb (ho _ _ hW.2.2.1).2 hS hi rfl hd (kk H locs lr hP hS hl)
theorem r_tlen (hK : KC p R s m args meth c ad g tyc own cc nL ret d) {k N : Nat} {ty : FieldType} {v : Int32} {n dd : String} (hd : gd cc pc .arraylength 1 pc2) (ho : ∀ (U : State) (H : Heap), gs_Old ad U H → gs_st ad U H k N ty n dd) (hv : Int32.ofNat N = v) (kk : WJ p l e R s m args below meth c cells slots Q ad g tyc nL pc2 ls (.int v :: st) μ) : WJ p l e R s m args below meth c cells slots Q ad g tyc nL pc ls (.ref (100 + k) :: st) μ := by
  obtain ⟨hd, rfl⟩ := hd
  obtain ⟨hx, hb, -, -, -, hown, ht, hW, -⟩ := hK
  exact fun H locs lr hP hS hl => va_tlen hx hb (ho _ _ hW.2.2.1).2 hS hv hd (kk H locs lr hP hS hl)
theorem r_iret (hK : KC p R s m args meth c ad g tyc own cc nL (some .int) d) {v : Int32} (hd : gd cc pc .ireturn 1 pc2) : WJ p l e R s m args below meth c cells slots (MQ below (gs_Q ad g tyc (some (.int v)) μ) args s cells slots (gs_A ad)) ad g tyc nL pc ls ([.int v]) μ := by
  obtain ⟨hx, hb, hr, hlk, -⟩ := hK
  intro H locs lr hP hS hl
  exact W.iret hx hb hr (fun t ht _ => ⟨rfl, by rw [ht]; exact hP, hS.F ht⟩) hS.2.2 hd.1 hlk
theorem r_zret (hK : KC p R s m args meth c ad g tyc own cc nL (some .boolean) d) {v : Int32} (hz : v = 0 ∨ v = 1) (hd : gd cc pc .ireturn 1 pc2) : WJ p l e R s m args below meth c cells slots (MQ below (gs_Q ad g tyc (some (.int v)) μ) args s cells slots (gs_A ad)) ad g tyc nL pc ls ([.int v]) μ := by
  obtain ⟨hx, hb, hr, hlk, -⟩ := hK
  intro H locs lr hP hS hl
  exact W.zret hx hb hr (gs_nz hz).1 (fun t ht _ => ⟨rfl, by rw [ht]; exact hP, hS.F ht⟩) hS.2.2 hd.1 hlk
theorem r_lret (hK : KC p R s m args meth c ad g tyc own cc nL (some .long) d) {v : Int64} (hd : gd cc pc .lreturn 1 pc2) : WJ p l e R s m args below meth c cells slots (MQ below (gs_Q ad g tyc (some (.long v)) μ) args s cells slots (gs_A ad)) ad g tyc nL pc ls ([.long v]) μ := by
  obtain ⟨hx, hb, hr, hlk, -⟩ := hK
  intro H locs lr hP hS hl
  exact W.lret hx hb hr (fun t ht _ => ⟨rfl, by rw [ht]; exact hP, hS.F ht⟩) hS.2.2 hd.1 hlk
theorem r_vret (hK : KC p R s m args meth c ad g tyc own cc nL none d) (hd : gd cc pc .return_ 1 pc2) : WJ p l e R s m args below meth c cells slots (MQ below (gs_Q ad g tyc none μ) args s cells slots (gs_A ad)) ad g tyc nL pc ls ([]) μ := by
  obtain ⟨hx, hb, hr, hlk, -⟩ := hK
  intro H locs lr hP hS hl
  exact W.vret hx hb hr (fun t ht _ => ⟨rfl, by rw [ht]; exact hP, hS.F ht⟩) hS.2.2 hd.1 hlk
theorem gs_after {o : Option Value} {μ1 : gs_M} {rest : List Value} {H : Heap} {locs : List Loc} {lr : Array Slot} {a : Array Value} {stk : List Value} (hS : va_S (gs_A ad) s.heap H locs) (hl : gs_LR ad nL lr ls)
    (run : va_Run p l e R s m args below meth c H locs cells slots 0 0 (F0 m pc lr stk) (rest.map (vr ad)) (gs_Q ad g tyc o μ1 a) (gs_A ad)) (kk : WJ p l e R s m args below meth c cells slots Q ad g tyc nL (pc + 3) ls (o.toList ++ rest) μ1) : W p l e R s m args below meth c H locs cells slots Q (F0 m pc lr stk) := by
  intro T hT X
  obtain ⟨v, st₀, t, T', L, h0, X', hL, e1, e2, ⟨ho, hP1, hz, hk⟩, stp⟩ := run T hT X
  cases ho
  rw [h0] at hz hk
  obtain ⟨t2, a1, b1⟩ := kk T'.heap (locs ++ L) lr (by rw [e1]; exact hP1)
    ⟨Nat.le_trans hS.1 (by rw [e1]; exact hz), fun q h1 h2 => by rw [e1, hk q (Nat.lt_of_lt_of_le h1 hS.1) h2]; exact hS.2.1 q h1 h2, fun q hq => by
      rcases List.mem_append.mp hq with h | h
      · exact hS.2.2 q h
      · exact hL q h⟩ hl T' rfl X'
  refine ⟨t2, stp t2 ?_, b1⟩
  cases o with
  | none => exact a1
  | some v => exact a1
theorem gs_cat (st : List Value) : ((st.map (vr ad)).map fun v => v.category).sum = (st.map fun v => v.category).sum := by
  rw [List.map_map]
  congr 1
  apply List.map_congr_left
  intro v _
  exact vr_cat ad v
theorem r_callV (hK : KC p R s m args meth c ad g tyc own cc nL ret d) {idx ci b n nL2 d2 : Nat} {y : MethodName} {cc2 : ByteArray} {ret2 : Option FieldType} {As stk stk2 : List Value} {o : Option Value} {μ1 : gs_M} {q : vw_C} (hM : CALL y cc2 nL2 ret2 d2 (.ref b :: As) μ o μ1) (hd : gd cc pc (.invokevirtual idx) 3 pc2) (hF : gs_MF y cc2 nL2 ret2 n) (hL : Cond.methodLink own idx y ∈ gs_tbl) (hI : Cond.instanceMethod y ∈ gs_tbl) (hq : vwCl[ci]? = some q) (hZ : Cond.selects q.1 y y ∈ gs_tbl) (hb9 : kd b = ci) (hn : As.length = n) (h8 : (st.map fun v => v.category).sum ≤ 8) (hdd : d2 + 1 ≤ d) (hcs : cells ≤ R.cells ∧ slots ≤ R.slots) (hs : As.reverse ++ .ref b :: st = stk) (hs2 : o.toList ++ st = stk2) (kk : WJ p l e R s m args below meth c cells slots Q ad g tyc nL pc2 ls (stk2) μ1) : WJ p l e R s m args below meth c cells slots Q ad g tyc nL pc ls (stk) μ := by
  obtain ⟨hd, rfl⟩ := hd
  subst hs
  subst hs2
  obtain ⟨hx, hb, -, -, hml, hown, ht, hW, hf1, hf2⟩ := hK
  obtain ⟨f1, f2, f3, f4, f5, f6, f7⟩ := hF
  obtain ⟨hci, hnf⟩ := gs_nfq ci q hq
  intro H locs lr hP hS hl
  have hlt : b < 99 := kd_lt (by omega)
  have he := gs_get (ad := ad) (tyc := tyc) (μ := μ) hlt
  rw [gs_obj hb9 hci] at he
  refine gs_after hS hl (va_runV (As := As.map (vr ad)) (b := ad b) (rest := st.map (vr ad)) (cc := cc) (nL := nL) (Ts := gs_tbl) (own := own) (C := q.1) (index := idx) (n := n) (bytes := cc2) (maxL := nL2) (ret := ret2) ⟨hx, hb, hml, hown, ht⟩ (hM l ad g tyc) ⟨callB_of n ht (gs_goodc f1) rfl rfl rfl (ht _ f2) (ht _ hL) ⟨f3, f4, f5⟩ ⟨?_, ?_⟩, ht _ hI, ht _ hZ⟩ ⟨gs_blind, va_recv hW.1 hP hq he, fun U hU hWw => ⟨rfl, by rw [hU]; exact hP, hW.go hS hU hWw⟩⟩ rfl (by rw [List.length_map]; exact hn) hl.1 ?_ (lv_room (by rw [gs_cat]; exact h8)) hd ⟨hcs.1, hcs.2⟩) kk
  · show d2 + 1 ≤ R.frames
    omega
  · show 8 + (nL2 + 11) + d2 * 64 ≤ R.locals
    omega
  · show (As.reverse ++ .ref b :: st).map (vr ad) = _
    rw [List.map_append, List.map_reverse]; rfl
theorem r_callU (hK : KC p R s m args meth c ad g tyc own cc nL ret d) {idx ci b n nL2 d2 : Nat} {x y : MethodName} {cc2 : ByteArray} {ret2 : Option FieldType} {As stk stk2 : List Value} {o : Option Value} {μ1 : gs_M} {q : vw_C} (hM : CALL y cc2 nL2 ret2 d2 (.ref b :: As) μ o μ1) (hd : gd cc pc (.invokevirtual idx) 3 pc2) (hF : gs_MF y cc2 nL2 ret2 n) (hL : Cond.methodLink own idx x ∈ gs_tbl) (hsm : Cond.sameMethod x.cls y.cls x.name x.desc ∈ gs_tbl) (hxy : x.name = y.name ∧ x.desc = y.desc) (hI : Cond.instanceMethod y ∈ gs_tbl) (hq : vwCl[ci]? = some q) (hZ : Cond.selects q.1 x y ∈ gs_tbl) (hb9 : kd b = ci) (hn : As.length = n) (h8 : (st.map fun v => v.category).sum ≤ 8) (hdd : d2 + 1 ≤ d) (hcs : cells ≤ R.cells ∧ slots ≤ R.slots) (hs : As.reverse ++ .ref b :: st = stk) (hs2 : o.toList ++ st = stk2) (kk : WJ p l e R s m args below meth c cells slots Q ad g tyc nL pc2 ls (stk2) μ1) : WJ p l e R s m args below meth c cells slots Q ad g tyc nL pc ls (stk) μ := by
  obtain ⟨hd, rfl⟩ := hd
  subst hs
  subst hs2
  obtain ⟨hx, hb, -, -, hml, hown, ht, hW, hf1, hf2⟩ := hK
  obtain ⟨f1, f2, f3, f4, f5, f6, f7⟩ := hF
  obtain ⟨hci, hnf⟩ := gs_nfq ci q hq
  intro H locs lr hP hS hl
  have hlt : b < 99 := kd_lt (by omega)
  have he := gs_get (ad := ad) (tyc := tyc) (μ := μ) hlt
  rw [gs_obj hb9 hci] at he
  refine gs_after hS hl (va_runU (x := x) (y := y) (owner := y.cls) (As := As.map (vr ad)) (b := ad b) (rest := st.map (vr ad)) (cc := cc) (nL := nL) (Ts := gs_tbl) (own := own) (C := q.1) (index := idx) (n := n) (bytes := cc2) (maxL := nL2) (ret := ret2) ⟨hx, hb, hml, hown, ht⟩ (hM l ad g tyc) (va_cwU n ht ?_ rfl rfl rfl ?_ ⟨f3, f4, by rw [hxy.2]; exact f5⟩ ⟨?_, ?_⟩) ⟨gs_blind, va_recv hW.1 hP hq he, fun U hU hWw => ⟨rfl, by rw [hU]; exact hP, hW.go hS hU hWw⟩⟩ rfl (by rw [List.length_map]; exact hn) hl.1 ?_ (lv_room (by rw [gs_cat]; exact h8)) hd ⟨hcs.1, hcs.2⟩) kk
  · refine gs_sub (fun w hw => ?_)
    unfold va_wsU at hw
    rcases List.mem_append.mp hw with h | h
    · simp only [List.mem_cons, List.not_mem_nil, or_false] at h
      rcases h with rfl | rfl | rfl | rfl | rfl
      · exact hL
      · exact hsm
      · exact hZ
      · exact hI
      · exact f2
    · rcases List.mem_cons.mp h with rfl | h
      · exact f1
      · exact h
  · rw [hxy.1, hxy.2]
  · show d2 + 1 ≤ R.frames
    omega
  · show 8 + (nL2 + 11) + d2 * 64 ≤ R.locals
    omega
  · show (As.reverse ++ .ref b :: st).map (vr ad) = _
    rw [List.map_append, List.map_reverse]; rfl
theorem r_callS (hK : KC p R s m args meth c ad g tyc own cc nL ret d) {idx n nL2 d2 : Nat} {y : MethodName} {cc2 : ByteArray} {ret2 : Option FieldType} {As stk stk2 : List Value} {o : Option Value} {μ1 : gs_M} (hM : CALL y cc2 nL2 ret2 d2 As μ o μ1) (hd : gd cc pc (.invokestatic idx) 3 pc2) (hF : gs_MF y cc2 nL2 ret2 n) (hL : Cond.methodLink own idx y ∈ gs_tbl) (hI : Cond.static y ∈ gs_tbl) (hn : As.length = n) (h8 : (st.map fun v => v.category).sum ≤ 8) (hdd : d2 + 1 ≤ d) (hcs : cells ≤ R.cells ∧ slots ≤ R.slots) (hs : As.reverse ++ st = stk) (hs2 : o.toList ++ st = stk2) (kk : WJ p l e R s m args below meth c cells slots Q ad g tyc nL pc2 ls (stk2) μ1) : WJ p l e R s m args below meth c cells slots Q ad g tyc nL pc ls (stk) μ := by
  obtain ⟨hd, rfl⟩ := hd
  subst hs
  subst hs2
  obtain ⟨hx, hb, -, -, hml, hown, ht, hW, hf1, hf2⟩ := hK
  obtain ⟨f1, f2, f3, f4, f5, f6, f7⟩ := hF
  intro H locs lr hP hS hl
  refine gs_after hS hl (va_runS (As := As.map (vr ad)) (rest := st.map (vr ad)) (cc := cc) (nL := nL) (Ts := gs_tbl) (own := own) (index := idx) (n := n) (bytes := cc2) (maxL := nL2) (ret := ret2) ⟨hx, hb, hml, hown, ht⟩ (hM l ad g tyc) ⟨callB_of n ht (gs_goodc f1) rfl rfl rfl (ht _ f2) (ht _ hL) ⟨f3, f4, f5⟩ ⟨?_, ?_⟩, ht _ hI⟩ ⟨gs_blind, fun U hU hWw => ⟨rfl, by rw [hU]; exact hP, hW.go hS hU hWw⟩⟩ rfl (by rw [List.length_map]; exact hn) hl.1 ?_ (lv_room (by rw [gs_cat]; exact h8)) hd ⟨hcs.1, hcs.2⟩) kk
  · show d2 + 1 ≤ R.frames
    omega
  · show 8 + (nL2 + 11) + d2 * 64 ≤ R.locals
    omega
  · show (As.reverse ++ st).map (vr ad) = _
    rw [List.map_append, List.map_reverse]
theorem r_callSN (hK : KC p R s m args meth c ad g tyc own cc nL ret d) {idx n nL2 d2 : Nat} {y : MethodName} {cc2 : ByteArray} {ret2 : Option FieldType} {As stk stk2 : List Value} {o : Option Value} {μ1 : gs_M} (hM : CALL y cc2 nL2 ret2 d2 As μ o μ1) (hd : gd cc pc (.invokestatic idx) 3 pc2) (hF : gs_MF y cc2 nL2 ret2 n) (hL : Cond.methodLinkNest own idx y "GrainShift" ∈ gs_nest) (hI : Cond.static y ∈ gs_tbl) (hn : As.length = n) (h8 : (st.map fun v => v.category).sum ≤ 8) (hdd : d2 + 1 ≤ d) (hcs : cells ≤ R.cells ∧ slots ≤ R.slots) (hs : As.reverse ++ st = stk) (hs2 : o.toList ++ st = stk2) (kk : WJ p l e R s m args below meth c cells slots Q ad g tyc nL pc2 ls (stk2) μ1) : WJ p l e R s m args below meth c cells slots Q ad g tyc nL pc ls (stk) μ := by
  obtain ⟨hd, rfl⟩ := hd
  subst hs
  subst hs2
  obtain ⟨hx, hb, -, -, hml, hown, ht, hW, hf1, hf2⟩ := hK
  obtain ⟨f1, f2, f3, f4, f5, f6, f7⟩ := hF
  intro H locs lr hP hS hl
  refine gs_after hS hl (va_runSN (As := As.map (vr ad)) (rest := st.map (vr ad)) (cc := cc) (nL := nL) (Ts := gs_tbl) (own := own) (index := idx) (n := n) (bytes := cc2) (maxL := nL2) (ret := ret2) ⟨hx, hb, hml, hown, ht⟩ (hM l ad g tyc) ⟨va_cnB n ht (gs_goodc f1) rfl rfl rfl (hW.2.1 _ hL) (ht _ f2) ⟨f3, f4, f5⟩ ⟨?_, ?_⟩, ht _ hI, trivial⟩ ⟨gs_blind, fun U hU hWw => ⟨rfl, by rw [hU]; exact hP, hW.go hS hU hWw⟩⟩ rfl (by rw [List.length_map]; exact hn) hl.1 ?_ (lv_room (by rw [gs_cat]; exact h8)) hd ⟨hcs.1, hcs.2⟩) kk
  · show d2 + 1 ≤ R.frames
    omega
  · show 8 + (nL2 + 11) + d2 * 64 ≤ R.locals
    omega
  · show (As.reverse ++ st).map (vr ad) = _
    rw [List.map_append, List.map_reverse]
end GSH
/-- a method's contract out of a walk of its body -/
theorem gs_enter {y : MethodName} {cc : ByteArray} {nL : Nat} {ret : Option FieldType} {d n : Nat} {av ls : List Value} {μ μ2 : gs_M} {o : Option Value} (hF : gs_MF y cc nL ret n) (hl : (gs_lay av).length ≤ nL) (hls : gs_lay av ++ List.replicate (nL - (gs_lay av).length) gs_J = ls)
    (body : ∀ (p : Program) (l : Launch) (e : Env) (R : Room) (s : State) (m : MethodId) (args : Array Value) (below : List Frame) (meth : Method) (c : Code) (ad : Nat → Nat) (g : va_G) (tyc : Nat → ClassId), KC p R s m args meth c ad g tyc y.cls cc nL ret d → WJ p l e R s m args below meth c 0 0 (MQ below (gs_Q ad g tyc o μ2) args s 0 0 (gs_A ad)) ad g tyc nL 0 ls [] μ) : CALL y cc nL ret d av μ o μ2 := by
  intro l ad g tyc
  refine Met.ofW (cc := cc) (maxL := nL) (ret := ret) hF.2.2.2.2.2.2 rfl ?_
  intro p e s m args below meth c s₁ B hml hv
  obtain ⟨hargs, hP, hW⟩ := hv
  have hts := atoms_spec (ws := Cond.code y cc nL ret :: gs_tbl) B.pre
  have hown : s.vm.findClass y.cls = some m.cls := findClass_of_methodNamed B.named
  have hlen : (lg_sl (av.map (vr ad))).length = (gs_lay av).length := by
    clear hl hls body hargs
    induction av with
    | nil => rfl
    | cons x xs ih =>
      unfold lg_sl gs_lay at ih ⊢
      rw [List.map_cons, List.flatMap_cons, List.flatMap_cons, List.length_append, List.length_append, ih, vr_cat]
      by_cases h : x.category = 2
      · rw [if_pos h, if_pos h]; rfl
      · rw [if_neg h, if_neg h]; rfl
  have hK : KC p (headSpec (Cond.code y cc nL ret :: gs_tbl) (gs_rm d)).room s m args meth c ad g tyc y.cls cc nL ret d := ⟨B.exec, B.bytes, B.returns, B.notSynchronized, hml, hown, fun w hw => hts w (List.mem_cons_of_mem _ hw), hW, Nat.le_refl _, Nat.le_refl _⟩
  have h := body p l e _ s m args below meth c ad g tyc hK s.heap [] _ hP va_S.rf (gs_entry ad av (by rw [hlen]; exact hl) hls)
  subst hargs
  rw [lg_entry_eq]
  exact h
