/-! MAKING: the first n places are there; ρ says which references are set already -/
abbrev gs_P : Type := Nat → Nat → Bool
def sP (ρ : gs_P) (a k : Nat) : gs_P := fun b j => if b = a ∧ j = k then true else ρ b j
theorem sP_s {ρ : gs_P} {a k : Nat} : sP ρ a k a k = true := if_pos ⟨rfl, rfl⟩
theorem sP_n {ρ : gs_P} {a k b j : Nat} (h : ¬ (b = a ∧ j = k)) : sP ρ a k b j = ρ b j := if_neg h
def gs_fvP (ad : Nat → Nat) (ρ : gs_P) (μ : gs_M) (c a k : Nat) : Value := match fk c k with
  | 0 => .int (gI μ a k)
  | 1 => .long (gL μ a k)
  | 2 => if ρ a k = true then .ref (ad (R0 a k)) else .null
  | 3 => if ρ a k = true then .ref (ad (gI μ a k).toNatClampNeg) else .null
  | 4 => .int (gI μ a k)
  | _ => .null
def gs_rfP (ad : Nat → Nat) (ρ : gs_P) (a : Nat) : Nat → Option Nat := fun i => if ρ a i = true then some (ad (R0 a i)) else none
def gs_cellP (ad : Nat → Nat) (tyc : Nat → ClassId) (ρ : gs_P) (μ : gs_M) (a : Nat) : va_E := match kd a with
  | 20 => .inl (tyc 0, ln a, .inl (μ.1 a))
  | 21 => .inl (tyc 1, ln a, .inl (μ.1 a))
  | 22 => .inl (tyc 2, ln a, .inr (.inl (μ.2 a)))
  | 23 => .inl (tyc 3, ln a, .inr (.inr (.inr (.inr (gs_rfP ad ρ a)))))
  | 24 => .inl (tyc 4, ln a, .inr (.inr (.inr (.inr (gs_rfP ad ρ a)))))
  | 25 => .inl (tyc 5, ln a, .inr (.inr (.inr (.inr (gs_rfP ad ρ a)))))
  | c => .inr (c, (List.range (ln a)).map (gs_fvP ad ρ μ c a))
def gs_wsP (ad : Nat → Nat) (tyc : Nat → ClassId) (n : Nat) (ρ : gs_P) (μ : gs_M) : va_W := (List.range n).map (fun a => (ad a, gs_cellP ad tyc ρ μ a))
theorem gs_getP {ad : Nat → Nat} {tyc : Nat → ClassId} {n : Nat} {ρ : gs_P} {μ : gs_M} {a : Nat} (h : a < n) : (gs_wsP ad tyc n ρ μ)[a]? = some (ad a, gs_cellP ad tyc ρ μ a) := by
  unfold gs_wsP; rw [List.getElem?_map, List.getElem?_range h]; rfl
theorem gs_setP {ad : Nat → Nat} {tyc : Nat → ClassId} {n : Nat} {ρ ρ' : gs_P} {μ μ' : gs_M} {a : Nat} (h : a < n) (h1 : ∀ b, b ≠ a → μ'.1 b = μ.1 b) (h2 : ∀ b, b ≠ a → μ'.2 b = μ.2 b) (h3 : ∀ b, b ≠ a → ρ' b = ρ b) : (gs_wsP ad tyc n ρ μ).set a (ad a, gs_cellP ad tyc ρ' μ' a) = gs_wsP ad tyc n ρ' μ' := by
  apply List.ext_getElem?
  intro k
  by_cases hk : k = a
  · subst hk
    rw [List.getElem?_set_self (by simp [gs_wsP]; exact h), gs_getP h]
  · rw [List.getElem?_set_ne (Ne.symm hk)]
    by_cases hl : k < n
    · rw [gs_getP hl, gs_getP hl]
      have e : gs_cellP ad tyc ρ μ k = gs_cellP ad tyc ρ' μ' k := by
        unfold gs_cellP gs_fvP gs_rfP gI gL
        rw [h1 k hk, h2 k hk, h3 k hk]
      rw [e]
    · rw [List.getElem?_eq_none (by simp [gs_wsP]; omega), List.getElem?_eq_none (by simp [gs_wsP]; omega)]
theorem gs_pushP {ad : Nat → Nat} {tyc : Nat → ClassId} {n : Nat} {ρ : gs_P} {μ : gs_M} : gs_wsP ad tyc (n + 1) ρ μ = gs_wsP ad tyc n ρ μ ++ [(ad n, gs_cellP ad tyc ρ μ n)] := by
  unfold gs_wsP
  rw [List.range_succ, List.map_append]
  rfl
theorem gs_DP {ad : Nat → Nat} {tyc : Nat → ClassId} {n : Nat} {ρ : gs_P} {μ : gs_M} (h : gs_inj ad) (hn : n ≤ 99) : va_D (gs_A ad) (gs_wsP ad tyc n ρ μ) := by
  have key : ∀ (k : Nat) (q : Nat × va_E), (gs_wsP ad tyc n ρ μ)[k]? = some q → k < n ∧ q.1 = ad k := by
    intro k q hq
    by_cases hl : k < n
    · rw [gs_getP hl] at hq; cases hq; exact ⟨hl, rfl⟩
    · rw [List.getElem?_eq_none (by simp [gs_wsP]; omega)] at hq; cases hq
  refine ⟨fun i j x y hi hj hxy => ?_, fun k q hk => ?_⟩
  · obtain ⟨a1, a2⟩ := key i x hi
    obtain ⟨b1, b2⟩ := key j y hj
    exact h i j (by omega) (by omega) (by rw [← a2, ← b2]; exact hxy)
  · obtain ⟨a1, a2⟩ := key k q hk
    exact ⟨k, by omega, a2.symm⟩
theorem gs_objP {ad : Nat → Nat} {tyc : Nat → ClassId} {ρ : gs_P} {μ : gs_M} {a ci : Nat} (ha : kd a = ci) (hc : ci < 12) : gs_cellP ad tyc ρ μ a = .inr (ci, (List.range (ln a)).map (gs_fvP ad ρ μ ci a)) := by
  unfold gs_cellP
  split
  all_goals first | omega | (rw [ha])
theorem gs_fldP {ad : Nat → Nat} {ρ : gs_P} {μ : gs_M} {ci a n k : Nat} (hk : k < n) : ((List.range n).map (gs_fvP ad ρ μ ci a))[k]? = some (gs_fvP ad ρ μ ci a k) := by
  rw [List.getElem?_map, List.getElem?_range hk]; rfl
/-- nothing is there yet from place n on -/
def gs_Z (n : Nat) (ρ : gs_P) (μ : gs_M) : Prop := ∀ b, n ≤ b → (∀ j, μ.1 b j = 0) ∧ (∀ j, μ.2 b j = 0) ∧ ∀ j, ρ b j = false
theorem gs_Z.mono {n n' : Nat} {ρ : gs_P} {μ : gs_M} (h : gs_Z n ρ μ) (hn : n ≤ n') : gs_Z n' ρ μ := fun b hb => h b (by omega)
theorem gs_Z.I {n a k : Nat} {v : Int32} {ρ : gs_P} {μ : gs_M} (h : gs_Z n ρ μ) (ha : a < n) : gs_Z n ρ (sI μ a k v) := fun b hb => by
  obtain ⟨h1, h2, h3⟩ := h b hb
  refine ⟨fun j => ?_, h2, h3⟩
  show (if b = a then upd (μ.1 a) k v else μ.1 b) j = 0
  rw [if_neg (by omega)]
  exact h1 j
theorem gs_Z.P {n a k : Nat} {ρ : gs_P} {μ : gs_M} (h : gs_Z n ρ μ) (ha : a < n) : gs_Z n (sP ρ a k) μ := fun b hb => by
  obtain ⟨h1, h2, h3⟩ := h b hb
  refine ⟨h1, h2, fun j => ?_⟩
  rw [sP_n (by omega)]
  exact h3 j
def gs_AO (U : State) : Prop := (Cond.arrayOver (.object "GrainShift$Hold")).before #[] U = true ∧ (Cond.arrayOver (.object "java/lang/String")).before #[] U = true ∧ (Cond.arrayOver (.array .int)).before #[] U = true
theorem gs_AO.go {s U : State} (h : gs_AO s) (hW : s.WarmedH U.vm) : gs_AO U := ⟨va_AO.moved hW.alike h.1, va_AO.moved hW.alike h.2.1, Cond.overAtom_setVm (args := #[]) hW.alike _ rfl h.2.2⟩
/-- the reference's texts, all five -/
def gs_VR5 (ad : Nat → Nat) (U : State) : Prop := vk_R "GrainShiftModel" 54 "rsmlw" (ad 107) U ∧ vk_R "GrainShiftModel" 56 "ch" (ad 108) U ∧ vk_R "GrainShiftModel" 58 "gftbk" (ad 109) U ∧ gs_AO U
def KP (p : Program) (R : Room) (s : State) (m : MethodId) (args : Array Value) (meth : Method) (c : Code) (ad : Nat → Nat) (g : va_G) (tyc : Nat → ClassId) (own : String) (cc : ByteArray) (nL : Nat) (ret : Option FieldType) (d n0 : Nat) : Prop :=
  KC p R s m args meth c ad g tyc own cc nL ret d ∧ (∀ k, k < 99 → ad k = ad 0 + k) ∧ gs_VR5 ad s ∧ (own ≠ "GrainShiftLaw" → meth.name = "<init>") ∧ s.heap.size = ad 0 + n0
def WP (p : Program) (l : Launch) (e : Env) (R : Room) (s : State) (m : MethodId) (args : Array Value) (below : List Frame) (meth : Method) (c : Code) (cells slots : Nat) (Q : State → Prop) (ad : Nat → Nat) (g : va_G) (tyc : Nat → ClassId) (nL : Nat) (pc : Nat) (ls st : List Value) (n : Nat) (ρ : gs_P) (μ : gs_M) : Prop :=
  ∀ (H : Heap) (locs : List Loc) (lr : Array Slot), va_P g vwCl (gs_wsP ad tyc n ρ μ) H → va_S (gs_A ad) s.heap H locs → gs_LR ad nL lr ls → W p l e R s m args below meth c H locs cells slots Q (F0 m pc lr (st.map (vr ad)))
def gs_QP (ad : Nat → Nat) (g : va_G) (tyc : Nat → ClassId) (n : Nat) (ρ : gs_P) (μ : gs_M) : Array Value → State → Outcome → State → Prop := fun _ st oc t => oc = .returned none ∧ va_P g vwCl (gs_wsP ad tyc n ρ μ) t.heap ∧ va_F (gs_A ad) st t
def gs_PcP (ad : Nat → Nat) (g : va_G) (tyc : Nat → ClassId) (av : List Value) (n : Nat) (ρ : gs_P) (μ : gs_M) : Array Value → State → Prop := va_Pc (av.map (vr ad)) (fun U => va_P g vwCl (gs_wsP ad tyc n ρ μ) U.heap ∧ U.heap.size = ad 0 + n ∧ gs_WU ad g tyc U ∧ gs_VR5 ad U)
def gs_rmP (d mc ms : Nat) : Room := { frames := d, cells := mc, slots := ms, locals := d * 64 }
/-- a constructor's contract: from the first n places to the first n2, mc cells of ms slots come -/
def INIT (y : MethodName) (cc : ByteArray) (nL d mc ms : Nat) (av : List Value) (n : Nat) (ρ : gs_P) (μ : gs_M) (n2 : Nat) (ρ2 : gs_P) (μ2 : gs_M) : Prop := ∀ (l : Launch) (ad : Nat → Nat) (g : va_G) (tyc : Nat → ClassId), (∀ k, k < 99 → ad k = ad 0 + k) → Met l y (Cond.code y cc nL none :: gs_tbl) (gs_rmP d mc ms) (gs_PcP ad g tyc av n ρ μ) (gs_QP ad g tyc n2 ρ2 μ2) mc ms (gs_A ad)
theorem gs_VR5.go {ad : Nat → Nat} {s U : State} (h : gs_VR5 ad s) (hW : s.WarmedH U.vm) : gs_VR5 ad U := ⟨h.1.warm hW, h.2.1.warm hW, h.2.2.1.warm hW, h.2.2.2.go hW⟩
theorem gs_decl : ∀ (ci : Nat) (q : vw_C), vwCl[ci]? = some q → ∀ k, k < q.2.2 → (q.2.1 k).1 ≠ "GrainShiftLaw"
  | 0, _, rfl => by decide +kernel
  | 1, _, rfl => by decide +kernel
  | 2, _, rfl => by decide +kernel
  | 3, _, rfl => by decide +kernel
  | 4, _, rfl => by decide +kernel
  | 5, _, rfl => by decide +kernel
  | 6, _, rfl => by decide +kernel
  | 7, _, rfl => by decide +kernel
  | 8, _, rfl => by decide +kernel
  | 9, _, rfl => by decide +kernel
  | 10, _, rfl => by decide +kernel
  | 11, _, rfl => by decide +kernel
  | k + 12, q, h => by simp [vwCl] at h
theorem gs_blindP {ad : Nat → Nat} {g : va_G} {tyc : Nat → ClassId} {av : List Value} {n : Nat} {ρ : gs_P} {μ : gs_M} : FrameBlind (gs_PcP ad g tyc av n ρ μ) := fun _ U _ _ q => ⟨q.1, q.2.1, q.2.2.1, q.2.2.2.1.calling, vk_R.same (u := U) rfl q.2.2.2.2.1, vk_R.same (u := U) rfl q.2.2.2.2.2.1, vk_R.same (u := U) rfl q.2.2.2.2.2.2.1, q.2.2.2.2.2.2.2⟩
section GSP
variable {p : Program} {l : Launch} {e : Env} {R : Room} {s : State} {m : MethodId} {args : Array Value} {below : List Frame} {meth : Method} {c : Code} {cells slots : Nat} {Q : State → Prop}
variable {ad : Nat → Nat} {g : va_G} {tyc : Nat → ClassId} {own : String} {cc : ByteArray} {nL : Nat} {ret : Option FieldType} {d : Nat}
variable {pc pc2 : Nat} {ls ls2 : List Value} {st : List Value} {n n0 : Nat} {ρ : gs_P} {μ : gs_M}
theorem p_iconst (hK : KP p R s m args meth c ad g tyc own cc nL ret d n0) {j : Int} {v : Int32} (hd : gd cc pc (.iconst j) 1 pc2) (hv : Int32.ofInt j = v) (k : WP p l e R s m args below meth c cells slots Q ad g tyc nL pc2 ls (.int v :: st) n ρ μ) : WP p l e R s m args below meth c cells slots Q ad g tyc nL pc ls (st) n ρ μ := by
  obtain ⟨hd, rfl⟩ := hd
  exact fun H locs lr hP hS hl => lv_iconst hK.1.1 hK.1.2.1 hd hv (k H locs lr hP hS hl)
theorem p_bipush (hK : KP p R s m args meth c ad g tyc own cc nL ret d n0) {j : Int} {v : Int32} (hd : gd cc pc (.bipush j) 2 pc2) (hv : (Int8.ofInt j).toInt32 = v) (k : WP p l e R s m args below meth c cells slots Q ad g tyc nL pc2 ls (.int v :: st) n ρ μ) : WP p l e R s m args below meth c cells slots Q ad g tyc nL pc ls (st) n ρ μ := by
  obtain ⟨hd, rfl⟩ := hd
  exact fun H locs lr hP hS hl => lv_bipush hK.1.1 hK.1.2.1 hd hv (k H locs lr hP hS hl)
theorem p_sipush (hK : KP p R s m args meth c ad g tyc own cc nL ret d n0) {j : Int} {v : Int32} (hd : gd cc pc (.sipush j) 3 pc2) (hv : (Int16.ofInt j).toInt32 = v) (k : WP p l e R s m args below meth c cells slots Q ad g tyc nL pc2 ls (.int v :: st) n ρ μ) : WP p l e R s m args below meth c cells slots Q ad g tyc nL pc ls (st) n ρ μ := by
  obtain ⟨hd, rfl⟩ := hd
  exact fun H locs lr hP hS hl => lv_sipush hK.1.1 hK.1.2.1 hd hv (k H locs lr hP hS hl)
theorem p_iload_n (hK : KP p R s m args meth c ad g tyc own cc nL ret d n0) {q : Fin 4} {i : Nat} {x : Int32} (hd : gd cc pc (.iload_n q) 1 pc2) (hi : (q : Nat) = i) (hg : ls[i]? = some (.int x)) (k : WP p l e R s m args below meth c cells slots Q ad g tyc nL pc2 ls (.int x :: st) n ρ μ) : WP p l e R s m args below meth c cells slots Q ad g tyc nL pc ls (st) n ρ μ := by
  obtain ⟨hd, rfl⟩ := hd
  exact fun H locs lr hP hS hl => lv_iload_n hK.1.1 hK.1.2.1 hd hi (hl.2.2 i _ hg (by intro q; cases q)) (k H locs lr hP hS hl)
theorem p_aload_n (hK : KP p R s m args meth c ad g tyc own cc nL ret d n0) {q : Fin 4} {i x : Nat} (hd : gd cc pc (.aload_n q) 1 pc2) (hi : (q : Nat) = i) (hg : ls[i]? = some (.ref x)) (k : WP p l e R s m args below meth c cells slots Q ad g tyc nL pc2 ls (.ref x :: st) n ρ μ) : WP p l e R s m args below meth c cells slots Q ad g tyc nL pc ls (st) n ρ μ := by
  obtain ⟨hd, rfl⟩ := hd
  exact fun H locs lr hP hS hl => lv_aload_n hK.1.1 hK.1.2.1 hd hi (hl.2.2 i _ hg (by intro q; cases q)) (k H locs lr hP hS hl)
theorem p_astore_n (hK : KP p R s m args meth c ad g tyc own cc nL ret d n0) {q : Fin 4} {i x : Nat} (hd : gd cc pc (.astore_n q) 1 pc2) (hi : (q : Nat) = i) (hn : i < nL) (he : st1 ls i (.ref x) = ls2) (k : WP p l e R s m args below meth c cells slots Q ad g tyc nL pc2 ls2 (st) n ρ μ) : WP p l e R s m args below meth c cells slots Q ad g tyc nL pc ls (.ref x :: st) n ρ μ := by
  obtain ⟨hd, rfl⟩ := hd
  subst he
  exact fun H locs lr hP hS hl => lv_astore_n hK.1.1 hK.1.2.1 hd hi hl.has hn rfl (fun lr2 h2 => k H locs lr2 hP hS (gs_st1 (lr := lr) (v := .ref x) h2))
theorem p_astore (hK : KP p R s m args meth c ad g tyc own cc nL ret d n0) {i x : Nat} (hd : gd cc pc (.astore i) 2 pc2) (hn : i < nL) (he : st1 ls i (.ref x) = ls2) (k : WP p l e R s m args below meth c cells slots Q ad g tyc nL pc2 ls2 (st) n ρ μ) : WP p l e R s m args below meth c cells slots Q ad g tyc nL pc ls (.ref x :: st) n ρ μ := by
  obtain ⟨hd, rfl⟩ := hd
  subst he
  exact fun H locs lr hP hS hl => lv_astore hK.1.1 hK.1.2.1 hd hl.has hn rfl (fun lr2 h2 => k H locs lr2 hP hS (gs_st1 (lr := lr) (v := .ref x) h2))
theorem p_istore (hK : KP p R s m args meth c ad g tyc own cc nL ret d n0) {i : Nat} {x : Int32} (hd : gd cc pc (.istore i) 2 pc2) (hn : i < nL) (he : st1 ls i (.int x) = ls2) (k : WP p l e R s m args below meth c cells slots Q ad g tyc nL pc2 ls2 (st) n ρ μ) : WP p l e R s m args below meth c cells slots Q ad g tyc nL pc ls (.int x :: st) n ρ μ := by
  obtain ⟨hd, rfl⟩ := hd
  subst he
  exact fun H locs lr hP hS hl => lv_istore hK.1.1 hK.1.2.1 hd hl.has hn rfl (fun lr2 h2 => k H locs lr2 hP hS (gs_st1 (lr := lr) (v := .int x) h2))
theorem p_dup (hK : KP p R s m args meth c ad g tyc own cc nL ret d n0) {v : Value} (hd : gd cc pc .dup 1 pc2) (hv : v.category = 1) (k : WP p l e R s m args below meth c cells slots Q ad g tyc nL pc2 ls (v :: v :: st) n ρ μ) : WP p l e R s m args below meth c cells slots Q ad g tyc nL pc ls (v :: st) n ρ μ := by
  obtain ⟨hd, rfl⟩ := hd
  exact fun H locs lr hP hS hl => lv_dup hK.1.1 hK.1.2.1 hd (by rw [vr_cat]; exact hv) (k H locs lr hP hS hl)
theorem p_goto (hK : KP p R s m args meth c ad g tyc own cc nL ret d n0) {off : Int} {tgt : Nat} (hd : gd cc pc (.goto off) 3 pc2) (ht : (pc : Int) + off = (tgt : Int)) (k : WP p l e R s m args below meth c cells slots Q ad g tyc nL tgt ls (st) n ρ μ) : WP p l e R s m args below meth c cells slots Q ad g tyc nL pc ls (st) n ρ μ := by
  exact fun H locs lr hP hS hl => lv_goto hK.1.1 hK.1.2.1 hd.1 ht (k H locs lr hP hS hl)
theorem p_icmp_ge (hK : KP p R s m args meth c ad g tyc own cc nL ret d n0) {x y : Int32} {off : Int} {tgt : Nat} (hd : gd cc pc (.if_icmp .ge off) 3 pc2) (ht : (pc : Int) + off = (tgt : Int)) (kt : y ≤ x → WP p l e R s m args below meth c cells slots Q ad g tyc nL tgt ls (st) n ρ μ) (kf : ¬ y ≤ x → WP p l e R s m args below meth c cells slots Q ad g tyc nL pc2 ls (st) n ρ μ) : WP p l e R s m args below meth c cells slots Q ad g tyc nL pc ls (.int y :: .int x :: st) n ρ μ := by
  obtain ⟨hd, rfl⟩ := hd
  exact fun H locs lr hP hS hl => lv_icmp_ge hK.1.1 hK.1.2.1 hd ht (fun q => kt q H locs lr hP hS hl) (fun q => kf q H locs lr hP hS hl)
theorem p_ldcS (hK : KP p R s m args meth c ad g tyc own cc nL ret d n0) {j b : Nat} {tx : String} (hd : gd cc pc (.ldc j) 2 pc2) (hR : gs_VR ad s → gs_VR5 ad s → vk_R own j tx (ad b) s) (k : WP p l e R s m args below meth c cells slots Q ad g tyc nL pc2 ls (.ref b :: st) n ρ μ) : WP p l e R s m args below meth c cells slots Q ad g tyc nL pc ls (st) n ρ μ := by
  obtain ⟨hd, rfl⟩ := hd
  obtain ⟨⟨hx, hb, -, -, -, ho, ht, hW, -⟩, -, h5, -⟩ := hK
  exact fun H locs lr hP hS hl => va_ldcS hx hb ho (hR hW.2.2.2.2 h5) hd (k H locs lr hP hS hl)
theorem p_gets (hK : KP p R s m args meth c ad g tyc own cc nL ret d n0) {idx k N : Nat} {ty : FieldType} {nn dd : String} (hd : gd cc pc (.getstatic idx) 3 pc2) (hn : Cond.fieldLinkNest own idx "GrainShift" nn dd "GrainShift" ∈ gs_nest) (ho : ∀ (U : State) (H : Heap), gs_Old ad U H → gs_st ad U H k N ty nn dd) (kk : WP p l e R s m args below meth c cells slots Q ad g tyc nL pc2 ls (.ref (100 + k) :: st) n ρ μ) : WP p l e R s m args below meth c cells slots Q ad g tyc nL pc ls (st) n ρ μ := by
  obtain ⟨hd, rfl⟩ := hd
  obtain ⟨⟨hx, hb, -, -, -, hown, ht, hW, -⟩, -⟩ := hK
  exact fun H locs lr hP hS hl => va_getsN hx hb (ho _ _ hW.2.2.1).1 hS hown (va_Nw.use rfl (hW.2.1 _ hn)) (fun _ h => h) hd (kk H locs lr hP hS hl)
theorem p_tlen (hK : KP p R s m args meth c ad g tyc own cc nL ret d n0) {k N : Nat} {ty : FieldType} {v : Int32} {nn dd : String} (hd : gd cc pc .arraylength 1 pc2) (ho : ∀ (U : State) (H : Heap), gs_Old ad U H → gs_st ad U H k N ty nn dd) (hv : Int32.ofNat N = v) (kk : WP p l e R s m args below meth c cells slots Q ad g tyc nL pc2 ls (.int v :: st) n ρ μ) : WP p l e R s m args below meth c cells slots Q ad g tyc nL pc ls (.ref (100 + k) :: st) n ρ μ := by
  obtain ⟨hd, rfl⟩ := hd
  obtain ⟨⟨hx, hb, -, -, -, hown, ht, hW, -⟩, -⟩ := hK
  exact fun H locs lr hP hS hl => va_tlen hx hb (ho _ _ hW.2.2.1).2 hS hv hd (kk H locs lr hP hS hl)
theorem p_objInit (hK : KP p R s m args meth c ad g tyc own cc nL ret d n0) {idx a : Nat} (hd : gd cc pc (.invokespecial idx) 3 pc2) (h1 : Cond.methodLink own idx Lib.objectInit ∈ gs_tbl) (h2 : Cond.instanceMethod Lib.objectInit ∈ gs_tbl) (h3 : Cond.code Lib.objectInit ⟨#[0xb1]⟩ 1 none ∈ gs_tbl) (h8 : (st.map fun v => v.category).sum ≤ 8) (hdd : 1 ≤ d) (kk : WP p l e R s m args below meth c cells slots Q ad g tyc nL pc2 ls (st) n ρ μ) : WP p l e R s m args below meth c cells slots Q ad g tyc nL pc ls (.ref a :: st) n ρ μ := by
  obtain ⟨hd, rfl⟩ := hd
  obtain ⟨⟨hx, hb, -, -, hml, hown, ht, hW, hf1, hf2⟩, -⟩ := hK
  intro H locs lr hP hS hl
  exact W.objInit hx hb hown (ht _ h1) (ht _ h2) (ht _ h3) rfl (hl.1.trans hml.symm) rfl hd (by omega) (by show 2 * 0 + _ + 12 ≤ _; rw [gs_cat]; omega) (kk H locs lr hP hS hl)
theorem p_vret (hK : KP p R s m args meth c ad g tyc own cc nL none d n0) (hd : gd cc pc .return_ 1 pc2) : WP p l e R s m args below meth c cells slots (MQ below (gs_QP ad g tyc n ρ μ) args s cells slots (gs_A ad)) ad g tyc nL pc ls ([]) n ρ μ := by
  obtain ⟨⟨hx, hb, hr, hlk, -⟩, -⟩ := hK
  intro H locs lr hP hS hl
  exact W.vret hx hb hr (fun t ht _ => ⟨rfl, by rw [ht]; exact hP, hS.F ht⟩) hS.2.2 hd.1 hlk
theorem p_getR (hK : KP p R s m args meth c ad g tyc own cc nL ret d n0) {idx ci k a b : Nat} {ref : String} {q : vw_C} (hd : gd cc pc (.getfield idx) 3 pc2) (hf : gs_FL own idx ref ci k q) (h0 : fk ci k = 2) (ha : kd a = ci) (hn : a < n) (hr : ρ a k = true) (hb9 : R0 a k = b) (kk : WP p l e R s m args below meth c cells slots Q ad g tyc nL pc2 ls (.ref b :: st) n ρ μ) : WP p l e R s m args below meth c cells slots Q ad g tyc nL pc ls (.ref a :: st) n ρ μ := by
  obtain ⟨hd, rfl⟩ := hd
  subst hb9
  obtain ⟨⟨hx, hb, -, -, -, ho, ht, hW, -⟩, -⟩ := hK
  obtain ⟨hq, hk, hl1, hsm⟩ := hf
  obtain ⟨hci, hnf⟩ := gs_nfq ci q hq
  intro H locs lr hP hS hl
  have he := gs_getP (ad := ad) (tyc := tyc) (ρ := ρ) (μ := μ) hn
  rw [gs_objP ha hci] at he
  have hkl : k < ln a := by rw [gs_ln a (by omega), ha, ← hnf]; exact hk
  have hv : gs_fvP ad ρ μ ci a k = .ref (ad (R0 a k)) := by unfold gs_fvP; rw [h0]; show (if ρ a k = true then _ else _) = _; rw [if_pos hr]
  exact va_get (v := .ref (ad (R0 a k))) hx hb ht (gs_cls ci q hq).1 ho hW.1 hP a he hq k hk (ht _ hl1) (fun x h => hsm.elim (fun e => by rw [e]; exact h) (fun h2 => u_same (ht _ h2) x h)) (by rw [gs_fldP hkl, hv]) hd (kk H locs lr hP hS hl)
theorem gs_putP (hK : KP p R s m args meth c ad g tyc own cc nL ret d n0) {idx ci k a : Nat} {ref : String} {q : vw_C} {μ2 : gs_M} {ρ2 : gs_P} (hn99 : n ≤ 99) (hd : gd cc pc (.putfield idx) 3 pc2) (hf : gs_FL own idx ref ci k q) (hdecl : (q.2.1 k).2.2.2 = true → (q.2.1 k).1 = own) (ha : kd a = ci) (han : a < n) {v : Value} (h1 : ∀ b, b ≠ a → μ2.1 b = μ.1 b) (h2 : ∀ b, b ≠ a → μ2.2 b = μ.2 b) (h3 : ∀ b, b ≠ a → ρ2 b = ρ b) (hv : gs_fvP ad ρ2 μ2 ci a k = vr ad v) (hoo : ∀ j, j ≠ k → gs_fvP ad ρ2 μ2 ci a j = gs_fvP ad ρ μ ci a j) (hn : narrow (gs_ty ci k) (vr ad v) = vr ad v) (hfit : fits (gs_ty ci k) (vr ad v) = true) (kk : WP p l e R s m args below meth c cells slots Q ad g tyc nL pc2 ls (st) n ρ2 μ2) : WP p l e R s m args below meth c cells slots Q ad g tyc nL pc ls (v :: .ref a :: st) n ρ μ := by
  obtain ⟨hd, rfl⟩ := hd
  obtain ⟨⟨hx, hb, -, -, -, hown, ht, hW, -⟩, had, -, hini⟩ := hK
  obtain ⟨hq, hk, hl1, hsm⟩ := hf
  obtain ⟨hci, hnf⟩ := gs_nfq ci q hq
  obtain ⟨c1, c2, c3⟩ := gs_cls ci q hq
  intro H locs lr hP hS hl
  have he := gs_getP (ad := ad) (tyc := tyc) (ρ := ρ) (μ := μ) han
  rw [gs_objP ha hci] at he
  have hkl : k < ln a := by rw [gs_ln a (by omega), ha, ← hnf]; exact hk
  have put : va_P g vwCl ((gs_wsP ad tyc n ρ μ).set a (ad a, .inr (ci, ((List.range (ln a)).map (gs_fvP ad ρ μ ci a)).set k (vr ad v)))) = va_P g vwCl (gs_wsP ad tyc n ρ2 μ2) := by
    rw [gs_mapset hv hoo, ← gs_objP (tyc := tyc) ha hci, gs_setP han h1 h2 h3]
  by_cases hfin : (q.2.1 k).2.2.2 = true
  · exact va_putF (v := vr ad v) hx hb ht c1 (gs_ty ci) c3 c2 hown hW.1 hP (gs_DP hW.2.2.2.1 hn99) hS a he hq k hk (ht _ hl1) (fun x h => hsm.elim (fun e => by rw [e]; exact h) (fun h2 => u_same (ht _ h2) x h)) hfin (hini.1 (by rw [← hdecl hfin]; exact gs_decl ci q hq k hk)) (hdecl hfin) (c3 k hk) hn hfit (by simpa using hkl) hd (fun H1 locs1 hP1 _ hS1 => kk H1 locs1 lr (by rw [put] at hP1; exact hP1) hS1 hl)
  · exact va_put (v := vr ad v) hx hb ht c1 (gs_ty ci) c3 c2 hown hW.1 hP (gs_DP hW.2.2.2.1 hn99) hS a he hq k hk (ht _ hl1) (fun x h => hsm.elim (fun e => by rw [e]; exact h) (fun h2 => u_same (ht _ h2) x h)) (by cases hf9 : (q.2.1 k).2.2.2 with
      | true => exact absurd hf9 hfin
      | false => rfl) (c3 k hk) hn hfit (by simpa using hkl) hd (fun H1 locs1 hP1 _ hS1 => kk H1 locs1 lr (by rw [put] at hP1; exact hP1) hS1 hl)
theorem gs_fvPI {a k j ci : Nat} {v : Int32} (h : j ≠ k) : gs_fvP ad ρ (sI μ a k v) ci a j = gs_fvP ad ρ μ ci a j := by
  have e1 : gI (sI μ a k v) a j = gI μ a j := by rw [gI_sI, if_neg (fun q => h q.2)]
  unfold gs_fvP
  rw [e1]
  rfl
theorem gs_fvPP {a k j ci : Nat} (h : j ≠ k) : gs_fvP ad (sP ρ a k) μ ci a j = gs_fvP ad ρ μ ci a j := by
  have e1 : sP ρ a k a j = ρ a j := sP_n (fun q => h q.2)
  unfold gs_fvP
  rw [e1]
theorem gs_s3 {a k : Nat} : ∀ b, b ≠ a → sP ρ a k b = ρ b := fun b h => funext fun j => sP_n (fun q => h q.1)
theorem p_putI (hK : KP p R s m args meth c ad g tyc own cc nL ret d n0) {idx ci k a : Nat} {ref : String} {q : vw_C} {v : Int32} (hn99 : n ≤ 99) (hd : gd cc pc (.putfield idx) 3 pc2) (hf : gs_FL own idx ref ci k q) (hdecl : (q.2.1 k).2.2.2 = true → (q.2.1 k).1 = own) (h0 : fk ci k = 0) (ha : kd a = ci) (han : a < n) (kk : WP p l e R s m args below meth c cells slots Q ad g tyc nL pc2 ls (st) n ρ (sI μ a k v)) : WP p l e R s m args below meth c cells slots Q ad g tyc nL pc ls (.int v :: .ref a :: st) n ρ μ := by
  obtain ⟨hci, hnf⟩ := gs_nfq ci q hf.1
  have ht := (gs_tyk ci hci k (hnf ▸ hf.2.1)).1 h0
  refine gs_putP hK hn99 hd hf hdecl ha han gs_s1 (fun _ _ => rfl) (fun _ _ => rfl) (v := .int v) ?_ (fun j hj => gs_fvPI hj) (by rw [ht]; rfl) (by rw [ht]; rfl) kk
  unfold gs_fvP
  rw [h0, gI_sI, if_pos ⟨rfl, rfl⟩]
  rfl
theorem gs_tyR : ∀ ci, ci < 12 → ∀ k, k < gs_nf.getD ci 0 → (fk ci k = 2 ∨ fk ci k = 3) → (gs_ty ci k).isReference = true := by decide +kernel
theorem gs_kinds : ∀ ci, ci < 12 → ∀ k, k < gs_nf.getD ci 0 → (fk ci k = 0 ∧ defaultValue (gs_ty ci k) = .int 0) ∨ (fk ci k = 1 ∧ defaultValue (gs_ty ci k) = .long 0) ∨ (fk ci k = 2 ∧ defaultValue (gs_ty ci k) = .null) ∨ (fk ci k = 3 ∧ defaultValue (gs_ty ci k) = .null) ∨ (fk ci k = 4 ∧ defaultValue (gs_ty ci k) = .int 0) := by decide +kernel
theorem gs_refn {ty : FieldType} (h : ty.isReference = true) (b : Nat) : narrow ty (.ref b) = .ref b ∧ fits ty (.ref b) = true := by
  cases ty <;> first | exact ⟨rfl, rfl⟩ | cases h
theorem p_putR (hK : KP p R s m args meth c ad g tyc own cc nL ret d n0) {idx ci k a b : Nat} {ref : String} {q : vw_C} (hn99 : n ≤ 99) (hd : gd cc pc (.putfield idx) 3 pc2) (hf : gs_FL own idx ref ci k q) (hdecl : (q.2.1 k).2.2.2 = true → (q.2.1 k).1 = own) (h0 : fk ci k = 2) (ha : kd a = ci) (han : a < n) (hb9 : R0 a k = b) (kk : WP p l e R s m args below meth c cells slots Q ad g tyc nL pc2 ls (st) n (sP ρ a k) μ) : WP p l e R s m args below meth c cells slots Q ad g tyc nL pc ls (.ref b :: .ref a :: st) n ρ μ := by
  obtain ⟨hci, hnf⟩ := gs_nfq ci q hf.1
  have ht := gs_refn (gs_tyR ci hci k (hnf ▸ hf.2.1) (Or.inl h0)) (ad b)
  refine gs_putP hK hn99 hd hf hdecl ha han (fun _ _ => rfl) (fun _ _ => rfl) gs_s3 (v := .ref b) ?_ (fun j hj => gs_fvPP hj) ht.1 ht.2 kk
  unfold gs_fvP
  rw [h0]
  show (if sP ρ a k a k = true then _ else _) = _
  rw [if_pos sP_s, hb9]
  rfl
theorem p_putM (hK : KP p R s m args meth c ad g tyc own cc nL ret d n0) {idx ci k a b : Nat} {ref : String} {q : vw_C} (hn99 : n ≤ 99) (hd : gd cc pc (.putfield idx) 3 pc2) (hf : gs_FL own idx ref ci k q) (hdecl : (q.2.1 k).2.2.2 = true → (q.2.1 k).1 = own) (h0 : fk ci k = 3) (ha : kd a = ci) (han : a < n) (hb9 : b < 2 ^ 31) (kk : WP p l e R s m args below meth c cells slots Q ad g tyc nL pc2 ls (st) n (sP ρ a k) (sI μ a k (nI b))) : WP p l e R s m args below meth c cells slots Q ad g tyc nL pc ls (.ref b :: .ref a :: st) n ρ μ := by
  obtain ⟨hci, hnf⟩ := gs_nfq ci q hf.1
  have ht := gs_refn (gs_tyR ci hci k (hnf ▸ hf.2.1) (Or.inr h0)) (ad b)
  refine gs_putP hK hn99 hd hf hdecl ha han gs_s1 (fun _ _ => rfl) gs_s3 (v := .ref b) ?_ (fun j hj => (gs_fvPP hj).trans (gs_fvPI hj)) ht.1 ht.2 kk
  unfold gs_fvP
  rw [h0]
  show (if sP ρ a k a k = true then Value.ref (ad (gI (sI μ a k (nI b)) a k).toNatClampNeg) else _) = _
  rw [if_pos sP_s, gI_sI, if_pos ⟨rfl, rfl⟩, nI_clamp hb9]
  rfl
/-- the heap's size, by the cells that came -/
theorem gs_size {T : State} {H : Heap} {locs : List Loc} (hK : KP p R s m args meth c ad g tyc own cc nL ret d n0) (hn : n0 + cells = n) (hn9 : n ≤ 99) (hn1 : 0 < n ∨ n0 = 0) (hP : va_P g vwCl (gs_wsP ad tyc n ρ μ) H) (hS : va_S (gs_A ad) s.heap H locs) (hT : T.heap = H) (X : Stand p l e R s m args below meth c T locs cells slots) : H.size = ad 0 + n := by
  have h1 : (T.setVm s.vm).heap.size ≤ s.heap.size + cells := X.same.2.2.1
  have h1 : H.size ≤ s.heap.size + cells := by rw [← hT]; exact h1
  have h9 := hK.2.2.2.2
  by_cases h0 : 0 < n
  · have h2 := (hP (n - 1) _ (gs_getP (by omega))).lt
    have h3 : ad (n - 1) < H.size := h2
    rw [hK.2.1 (n - 1) (by omega)] at h3
    omega
  · have := hS.1
    omega
theorem p_alloc {H H1 : Heap} {locs : List Loc} (hP : va_P g vwCl (gs_wsP ad tyc n ρ μ) H) (hS : va_S (gs_A ad) s.heap H locs) (z1 : H1.size = H.size + 1) (o1 : ∀ q, q < H.size → H1[q]? = H[q]?) (he : va_at g vwCl (ad n, gs_cellP ad tyc ρ μ n) H1) : va_P g vwCl (gs_wsP ad tyc (n + 1) ρ μ) H1 ∧ va_S (gs_A ad) s.heap H1 locs := by
  refine ⟨?_, ?_⟩
  · rw [gs_pushP]
    refine (hP.kept (fun k x hx => o1 x.1 ((hP k x hx).lt))).app (fun k x hx => ?_)
    have h0 : k < 1 := (List.getElem?_eq_some_iff.mp hx).1
    rw [show k = 0 by omega] at hx
    cases hx
    exact he
  · exact ⟨Nat.le_trans hS.1 (by omega), fun x h1 h2 => (o1 x (Nat.lt_of_lt_of_le h1 hS.1)).trans (hS.2.1 x h1 h2), hS.2.2⟩
theorem p_new (hK : KP p R s m args meth c ad g tyc own cc nL ret d n0) {idx ci N : Nat} {C : String} {T : u_T} (hd : gd cc pc (.new idx) 3 pc2) (hc : vwCl[ci]? = some (C, T, N)) (h1 : Cond.classLink own idx C ∈ gs_tbl) (h2 : Cond.instantiable C N ∈ gs_tbl) (h3 : Cond.initialized C ∈ gs_tbl) (hn : n0 + cells = n) (hn9 : n < 99) (hn1 : 0 < n ∨ n0 = 0) (hkd : kd n = ci) (hZ : gs_Z n ρ μ) (hcl : cells + 1 ≤ R.cells) (hsl : slots + N ≤ R.slots) (kk : WP p l e R s m args below meth c (cells + 1) (slots + N) Q ad g tyc nL pc2 ls (.ref n :: st) (n + 1) ρ μ) : WP p l e R s m args below meth c cells slots Q ad g tyc nL pc ls (st) n ρ μ := by
  obtain ⟨hd, rfl⟩ := hd
  have hK' := hK
  obtain ⟨⟨hx, hb, -, -, -, hown, ht, hW, -⟩, had, -⟩ := hK'
  intro H locs lr hP hS hl T0 hT0 X0
  have hz := gs_size hK hn (by omega) hn1 hP hS hT0 X0
  have hKn := hW.1.1 ci _ hc
  obtain ⟨hci, hnf⟩ := gs_nfq ci _ hc
  obtain ⟨c1, c2, c3⟩ := gs_cls ci _ hc
  have hadn : ad n = H.size := by rw [had n hn9, hz]
  have hln : ln n = N := by rw [gs_ln n (by omega), hkd, ← hnf]
  refine (show W p l e R s m args below meth c H locs cells slots Q (F0 m pc lr (st.map (vr ad))) from ?_) T0 hT0 X0
  refine W.newcK hx hb hown (ht _ h1) (ht _ h2) (ht _ h3) rfl hd hcl hsl hKn.2.1 rfl (fun H1 kC hkC e1 z1 o1 => ?_)
  obtain ⟨hP1, hS1⟩ := p_alloc hP hS z1 o1 (by
    rw [gs_objP hkd hci, hadn]
    refine ⟨_, hc, (u_born (gs_ty ci) ht c1 hKn hkC e1 c3).to (fun j hj => ?_)⟩
    show defaultValue (gs_ty ci j) = vp_V ((List.range (ln n)).map (gs_fvP ad ρ μ ci n)) j
    have hv : vp_V ((List.range (ln n)).map (gs_fvP ad ρ μ ci n)) j = gs_fvP ad ρ μ ci n j := by
      unfold vp_V
      first
        | rw [List.getD_eq_getElem?_getD, gs_fldP (by rw [hln]; exact hj)]; rfl
        | rw [gs_fldP (by rw [hln]; exact hj)]; rfl
        | rw [gs_fldP (by rw [hln]; exact hj)]
    rw [hv]
    obtain ⟨z1, z2, z3⟩ := hZ n (Nat.le_refl n)
    have hk5 := gs_kinds ci hci j (hnf ▸ hj)
    unfold gs_fvP gI gL
    rw [z1, z2, z3]
    rcases hk5 with ⟨h, h'⟩ | ⟨h, h'⟩ | ⟨h, h'⟩ | ⟨h, h'⟩ | ⟨h, h'⟩ <;> rw [h, h'] <;> rfl)
  have := kk H1 locs lr hP1 hS1 hl
  have e9 : (Value.ref n :: st).map (vr ad) = .ref H.size :: st.map (vr ad) := by rw [← hadn]; rfl
  rw [e9] at this
  exact this
theorem p_newaI (hK : KP p R s m args meth c ad g tyc own cc nL ret d n0) {v : Int32} {N : Nat} (hd : gd cc pc (.newarray .int) 2 pc2) (h1 : Cond.arrayClass .int ∈ gs_tbl) (hv : ¬ v < 0) (hN : v.toNatClampNeg = N) (hby : N * 8 ≤ 536870912) (hn : n0 + cells = n) (hn9 : n < 99) (hn1 : 0 < n ∨ n0 = 0) (hkd : kd n = 20) (hln : ln n = N) (hZ : gs_Z n ρ μ) (hcl : cells + 1 ≤ R.cells) (hsl : slots + N ≤ R.slots) (kk : WP p l e R s m args below meth c (cells + 1) (slots + N) Q ad g tyc nL pc2 ls (.ref n :: st) (n + 1) ρ μ) : WP p l e R s m args below meth c cells slots Q ad g tyc nL pc ls (.int v :: st) n ρ μ := by
  obtain ⟨hd, rfl⟩ := hd
  have hK' := hK
  obtain ⟨⟨hx, hb, -, -, -, hown, ht, hW, -⟩, had, -⟩ := hK'
  intro H locs lr hP hS hl T0 hT0 X0
  have hz := gs_size hK hn (by omega) hn1 hP hS hT0 X0
  have hadn : ad n = H.size := by rw [had n hn9, hz]
  refine (show W p l e R s m args below meth c H locs cells slots Q (F0 m pc lr ((.int v :: st).map (vr ad))) from ?_) T0 hT0 X0
  refine va_newaK (atype := .int) hx hb (ht _ h1) rfl hd rfl hv hN (Nat.le_trans (Nat.mul_le_mul_left N (show componentBytes .int ≤ 8 by decide)) hby) hcl hsl rfl (fun H1 cA e1 z1 o1 hAr hNm => ?_)
  have hcA : cA = tyc 0 := by
    have h := (hW.1.2 0 _ rfl).2
    exact Option.some.inj (hNm.symm.trans h)
  subst hcA
  obtain ⟨hP1, hS1⟩ := p_alloc hP hS z1 o1 (by
    have hc9 : gs_cellP ad tyc ρ μ n = .inl (tyc 0, N, .inl (fun _ => 0)) := by
      unfold gs_cellP
      rw [hkd]
      show (Sum.inl (tyc 0, ln n, .inl (μ.1 n)) : va_E) = _
      rw [hln, show μ.1 n = fun _ => 0 from funext (hZ n (Nat.le_refl n)).1]
    rw [hc9, hadn]
    exact e1)
  have := kk H1 locs lr hP1 hS1 hl
  have e9 : (Value.ref n :: st).map (vr ad) = .ref H.size :: st.map (vr ad) := by rw [← hadn]; rfl
  rw [e9] at this
  exact this
theorem p_newaB (hK : KP p R s m args meth c ad g tyc own cc nL ret d n0) {v : Int32} {N : Nat} (hd : gd cc pc (.newarray .byte) 2 pc2) (h1 : Cond.arrayClass .byte ∈ gs_tbl) (hv : ¬ v < 0) (hN : v.toNatClampNeg = N) (hby : N * 8 ≤ 536870912) (hn : n0 + cells = n) (hn9 : n < 99) (hn1 : 0 < n ∨ n0 = 0) (hkd : kd n = 21) (hln : ln n = N) (hZ : gs_Z n ρ μ) (hcl : cells + 1 ≤ R.cells) (hsl : slots + N ≤ R.slots) (kk : WP p l e R s m args below meth c (cells + 1) (slots + N) Q ad g tyc nL pc2 ls (.ref n :: st) (n + 1) ρ μ) : WP p l e R s m args below meth c cells slots Q ad g tyc nL pc ls (.int v :: st) n ρ μ := by
  obtain ⟨hd, rfl⟩ := hd
  have hK' := hK
  obtain ⟨⟨hx, hb, -, -, -, hown, ht, hW, -⟩, had, -⟩ := hK'
  intro H locs lr hP hS hl T0 hT0 X0
  have hz := gs_size hK hn (by omega) hn1 hP hS hT0 X0
  have hadn : ad n = H.size := by rw [had n hn9, hz]
  refine (show W p l e R s m args below meth c H locs cells slots Q (F0 m pc lr ((.int v :: st).map (vr ad))) from ?_) T0 hT0 X0
  refine va_newaK (atype := .byte) hx hb (ht _ h1) rfl hd rfl hv hN (Nat.le_trans (Nat.mul_le_mul_left N (show componentBytes .byte ≤ 8 by decide)) hby) hcl hsl rfl (fun H1 cA e1 z1 o1 hAr hNm => ?_)
  have hcA : cA = tyc 1 := by
    have h := (hW.1.2 1 _ rfl).2
    exact Option.some.inj (hNm.symm.trans h)
  subst hcA
  obtain ⟨hP1, hS1⟩ := p_alloc hP hS z1 o1 (by
    have hc9 : gs_cellP ad tyc ρ μ n = .inl (tyc 1, N, .inl (fun _ => 0)) := by
      unfold gs_cellP
      rw [hkd]
      show (Sum.inl (tyc 1, ln n, .inl (μ.1 n)) : va_E) = _
      rw [hln, show μ.1 n = fun _ => 0 from funext (hZ n (Nat.le_refl n)).1]
    rw [hc9, hadn]
    exact e1)
  have := kk H1 locs lr hP1 hS1 hl
  have e9 : (Value.ref n :: st).map (vr ad) = .ref H.size :: st.map (vr ad) := by rw [← hadn]; rfl
  rw [e9] at this
  exact this
theorem p_newaL (hK : KP p R s m args meth c ad g tyc own cc nL ret d n0) {v : Int32} {N : Nat} (hd : gd cc pc (.newarray .long) 2 pc2) (h1 : Cond.arrayClass .long ∈ gs_tbl) (hv : ¬ v < 0) (hN : v.toNatClampNeg = N) (hby : N * 8 ≤ 536870912) (hn : n0 + cells = n) (hn9 : n < 99) (hn1 : 0 < n ∨ n0 = 0) (hkd : kd n = 22) (hln : ln n = N) (hZ : gs_Z n ρ μ) (hcl : cells + 1 ≤ R.cells) (hsl : slots + N ≤ R.slots) (kk : WP p l e R s m args below meth c (cells + 1) (slots + N) Q ad g tyc nL pc2 ls (.ref n :: st) (n + 1) ρ μ) : WP p l e R s m args below meth c cells slots Q ad g tyc nL pc ls (.int v :: st) n ρ μ := by
  obtain ⟨hd, rfl⟩ := hd
  have hK' := hK
  obtain ⟨⟨hx, hb, -, -, -, hown, ht, hW, -⟩, had, -⟩ := hK'
  intro H locs lr hP hS hl T0 hT0 X0
  have hz := gs_size hK hn (by omega) hn1 hP hS hT0 X0
  have hadn : ad n = H.size := by rw [had n hn9, hz]
  refine (show W p l e R s m args below meth c H locs cells slots Q (F0 m pc lr ((.int v :: st).map (vr ad))) from ?_) T0 hT0 X0
  refine va_newaK (atype := .long) hx hb (ht _ h1) rfl hd rfl hv hN (Nat.le_trans (Nat.mul_le_mul_left N (show componentBytes .long ≤ 8 by decide)) hby) hcl hsl rfl (fun H1 cA e1 z1 o1 hAr hNm => ?_)
  have hcA : cA = tyc 2 := by
    have h := (hW.1.2 2 _ rfl).2
    exact Option.some.inj (hNm.symm.trans h)
  subst hcA
  obtain ⟨hP1, hS1⟩ := p_alloc hP hS z1 o1 (by
    have hc9 : gs_cellP ad tyc ρ μ n = .inl (tyc 2, N, .inr (.inl (fun _ => 0))) := by
      unfold gs_cellP
      rw [hkd]
      show (Sum.inl (tyc 2, ln n, .inr (.inl (μ.2 n))) : va_E) = _
      rw [hln, show μ.2 n = fun _ => 0 from funext (hZ n (Nat.le_refl n)).2.1]
    rw [hc9, hadn]
    exact e1)
  have := kk H1 locs lr hP1 hS1 hl
  have e9 : (Value.ref n :: st).map (vr ad) = .ref H.size :: st.map (vr ad) := by rw [← hadn]; rfl
  rw [e9] at this
  exact this
theorem p_call (hK : KP p R s m args meth c ad g tyc own cc nL ret d n0) {idx b k nL2 d2 mc ms n2 : Nat} {y : MethodName} {cc2 : ByteArray} {As stk : List Value} {ρ2 : gs_P} {μ2 : gs_M} (hM : INIT y cc2 nL2 d2 mc ms (.ref b :: As) n ρ μ n2 ρ2 μ2) (hd : gd cc pc (.invokespecial idx) 3 pc2) (hF : gs_MF y cc2 nL2 none k) (hL : Cond.methodLink own idx y ∈ gs_tbl ∨ Cond.methodLinkNest own idx y "GrainShift" ∈ gs_nest) (hI : Cond.instanceMethod y ∈ gs_tbl) (hy : y.name = "<init>") (hk : As.length = k) (h8 : (st.map fun v => v.category).sum ≤ 8) (hdd : d2 + 1 ≤ d) (hn : n0 + cells = n) (hn9 : n ≤ 99) (hn1 : 0 < n ∨ n0 = 0) (hcs : cells + mc ≤ R.cells ∧ slots + ms ≤ R.slots) (hs : As.reverse ++ .ref b :: st = stk) (kk : WP p l e R s m args below meth c (cells + mc) (slots + ms) Q ad g tyc nL pc2 ls (st) n2 ρ2 μ2) : WP p l e R s m args below meth c cells slots Q ad g tyc nL pc ls (stk) n ρ μ := by
  obtain ⟨hd, rfl⟩ := hd
  subst hs
  have hK' := hK
  obtain ⟨⟨hx, hb, -, -, hml, hown, ht, hW, hf1, hf2⟩, had, hV5, -⟩ := hK'
  obtain ⟨f1, f2, f3, f4, f5, f6, f7⟩ := hF
  intro H locs lr hP hS hl T0 hT0 X0
  have hz := gs_size hK hn hn9 hn1 hP hS hT0 X0
  have pre : ∀ U : State, U.heap = H → s.WarmedH U.vm → gs_PcP ad g tyc (.ref b :: As) n ρ μ ((.ref (ad b) :: As.map (vr ad)) : List Value).toArray U := fun U hU hWw => ⟨rfl, by rw [hU]; exact hP, by rw [hU]; exact hz, hW.go hS hU hWw, hV5.go hWw⟩
  have e1 : (As.reverse ++ .ref b :: st).map (vr ad) = (As.map (vr ad)).reverse ++ .ref (ad b) :: st.map (vr ad) := by rw [List.map_append, List.map_reverse]; rfl
  have r1 : d2 + 1 ≤ R.frames := by omega
  have r2 : 8 + (nL2 + 11) + d2 * 64 ≤ R.locals := by omega
  have run : va_Run p l e R s m args below meth c H locs cells slots mc ms (F0 m pc lr ((As.reverse ++ .ref b :: st).map (vr ad))) (st.map (vr ad)) (gs_QP ad g tyc n2 ρ2 μ2 ((.ref (ad b) :: As.map (vr ad)) : List Value).toArray) (gs_A ad) := by
    rcases hL with hL | hL
    · exact va_runI (As := As.map (vr ad)) (b := ad b) (rest := st.map (vr ad)) (cc := cc) (nL := nL) (Ts := gs_tbl) (own := own) (index := idx) (n := k) (bytes := cc2) (maxL := nL2) ⟨hx, hb, hml, hown, ht⟩ (hM l ad g tyc had) ⟨callB_of k ht (gs_goodc f1) rfl rfl rfl (ht _ f2) (ht _ hL) ⟨f3, f4, f5⟩ ⟨r1, r2⟩, hy, ht _ hI⟩ ⟨gs_blindP, pre⟩ rfl (by rw [List.length_map]; exact hk) hl.1 e1 (lv_room (by rw [gs_cat]; exact h8)) hd hcs
    · exact va_runIN (As := As.map (vr ad)) (b := ad b) (rest := st.map (vr ad)) (cc := cc) (nL := nL) (Ts := gs_tbl) (own := own) (index := idx) (n := k) (bytes := cc2) (maxL := nL2) ⟨hx, hb, hml, hown, ht⟩ (hM l ad g tyc had) ⟨va_cnB k ht (gs_goodc f1) rfl rfl rfl (hW.2.1 _ hL) (ht _ f2) ⟨f3, f4, f5⟩ ⟨r1, r2⟩, hy, ht _ hI⟩ ⟨gs_blindP, pre⟩ rfl (by rw [List.length_map]; exact hk) hl.1 e1 (lv_room (by rw [gs_cat]; exact h8)) hd hcs
  obtain ⟨v, st₀, t, T', L, h0, X', hL9, q1, q2, ⟨ho, hP1, hz1, hk1⟩, stp⟩ := run T0 hT0 X0
  cases ho
  rw [h0] at hz1 hk1
  obtain ⟨t2, a1, b1⟩ := kk T'.heap (locs ++ L) lr (by rw [q1]; exact hP1)
    ⟨Nat.le_trans hS.1 (by rw [q1]; exact hz1), fun q w1 w2 => by rw [q1, hk1 q (Nat.lt_of_lt_of_le w1 hS.1) w2]; exact hS.2.1 q w1 w2, fun q hq => by
      rcases List.mem_append.mp hq with h | h
      · exact hS.2.2 q h
      · exact hL9 q h⟩ hl T' rfl X'
  exact ⟨t2, stp t2 a1, b1⟩
end GSP
theorem gs_enterP {y : MethodName} {cc : ByteArray} {nL d k mc ms n n2 : Nat} {av ls : List Value} {ρ ρ2 : gs_P} {μ μ2 : gs_M} (hF : gs_MF y cc nL none k) (hy : y.name = "<init>") (hl : (gs_lay av).length ≤ nL) (hls : gs_lay av ++ List.replicate (nL - (gs_lay av).length) gs_J = ls)
    (body : ∀ (p : Program) (l : Launch) (e : Env) (R : Room) (s : State) (m : MethodId) (args : Array Value) (below : List Frame) (meth : Method) (c : Code) (ad : Nat → Nat) (g : va_G) (tyc : Nat → ClassId), R.cells = mc ∧ R.slots = ms → KP p R s m args meth c ad g tyc y.cls cc nL none d n → WP p l e R s m args below meth c 0 0 (MQ below (gs_QP ad g tyc n2 ρ2 μ2) args s mc ms (gs_A ad)) ad g tyc nL 0 ls [] n ρ μ) : INIT y cc nL d mc ms av n ρ μ n2 ρ2 μ2 := by
  intro l ad g tyc had
  refine Met.ofW (cc := cc) (maxL := nL) (ret := none) hF.2.2.2.2.2.2 rfl ?_
  intro p e s m args below meth c s₁ B hml hv
  obtain ⟨hargs, hP, hz, hW, hV5⟩ := hv
  have hts := atoms_spec (ws := Cond.code y cc nL none :: gs_tbl) B.pre
  have hown : s.vm.findClass y.cls = some m.cls := findClass_of_methodNamed B.named
  have hin : meth.name = "<init>" := (name_of_methodNamed B.named B.method).1.trans hy
  have hlen : (lg_sl (av.map (vr ad))).length = (gs_lay av).length := by
    clear hl hls body hargs
    induction av with
    | nil => rfl
    | cons x xs ih =>
      unfold lg_sl gs_lay at ih ⊢
      rw [List.map_cons, List.flatMap_cons, List.flatMap_cons, List.length_append, List.length_append, ih, vr_cat]
      by_cases h : x.category = 2
      · rw [if_pos h, if_pos h]; rfl
      · rw [if_neg h, if_neg h]; rfl
  have hK : KP p (headSpec (Cond.code y cc nL none :: gs_tbl) (gs_rmP d mc ms)).room s m args meth c ad g tyc y.cls cc nL none d n := ⟨⟨B.exec, B.bytes, B.returns, B.notSynchronized, hml, hown, fun w hw => hts w (List.mem_cons_of_mem _ hw), hW, Nat.le_refl _, Nat.le_refl _⟩, had, hV5, fun _ => hin, hz⟩
  have h := body p l e _ s m args below meth c ad g tyc ⟨rfl, rfl⟩ hK s.heap [] _ hP va_S.rf (gs_entry ad av (by rw [hlen]; exact hl) hls)
  subst hargs
  rw [lg_entry_eq]
  exact h
