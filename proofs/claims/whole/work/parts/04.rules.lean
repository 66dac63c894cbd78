/-! the judgement: from a place of a method's code, with locals, stack and memory as places have them, the machine comes to Q -/
def gs_J : Value := .retAddr 0
def gs_LR (ad : Nat → Nat) (nL : Nat) (lr : Array Slot) (ls : List Value) : Prop := lr.size = nL ∧ lv_wf lr ∧ ∀ (i : Nat) (v : Value), ls[i]? = some v → v ≠ gs_J → lr[i]? = some (.val (vr ad v))
theorem vr_cat (ad : Nat → Nat) (v : Value) : (vr ad v).category = v.category := by cases v <;> rfl
def gs_prs (ad : Nat → Nat) (ls : List Value) : List (Nat × Value) := (List.range ls.length).filterMap (fun i => match ls[i]? with
  | some v => if v = gs_J then none else some (i, vr ad v)
  | none => none)
theorem gs_prs_mem {ad : Nat → Nat} {ls : List Value} {i : Nat} {v : Value} (h : ls[i]? = some v) (hv : v ≠ gs_J) : (i, vr ad v) ∈ gs_prs ad ls := by
  refine List.mem_filterMap.mpr ⟨i, List.mem_range.mpr (List.getElem?_eq_some_iff.mp h).1, ?_⟩
  rw [h]
  show (if v = gs_J then none else some (i, vr ad v)) = _
  rw [if_neg hv]
theorem gs_LR.has {ad : Nat → Nat} {nL : Nat} {lr : Array Slot} {ls : List Value} (h : gs_LR ad nL lr ls) : lv_has lr nL (gs_prs ad ls) := by
  refine ⟨h.1, h.2.1, fun q hq => ?_⟩
  obtain ⟨i, -, h1⟩ := List.mem_filterMap.mp hq
  cases hl : ls[i]? with
  | none => rw [hl] at h1; cases h1
  | some v =>
    rw [hl] at h1
    by_cases hv : v = gs_J
    · have h1 : (if v = gs_J then none else some (i, vr ad v)) = some q := h1
      rw [if_pos hv] at h1; cases h1
    · have h1 : (if v = gs_J then none else some (i, vr ad v)) = some q := h1
      rw [if_neg hv] at h1
      cases h1
      exact h.2.2 i v hl hv
/-- a store of one slot: a long that stood over the place goes -/
def gs_pre (ls : List Value) (i : Nat) : List Value := match i with
  | 0 => ls
  | k + 1 => match ls[k]? with
    | some (.long _) => ls.set k gs_J
    | some (.double _) => ls.set k gs_J
    | _ => ls
def st1 (ls : List Value) (i : Nat) (v : Value) : List Value := (gs_pre ls i).set i v
def st2 (ls : List Value) (i : Nat) (v : Value) : List Value := ((gs_pre ls i).set i v).set (i + 1) gs_J
theorem gs_pre_get {ls : List Value} {i k : Nat} {w : Value} (h : (gs_pre ls i)[k]? = some w) (hw : w ≠ gs_J) : ls[k]? = some w ∧ ¬ (k + 1 = i ∧ w.category = 2) := by
  cases i with
  | zero => exact ⟨h, fun q => by omega⟩
  | succ n =>
    by_cases hk : k = n
    · subst hk
      cases hl : ls[k]? with
      | none =>
        simp only [gs_pre, hl] at h
        exact absurd h (by simp)
      | some v =>
        cases v with
        | long z =>
          simp only [gs_pre, hl] at h
          rw [List.getElem?_set_self (List.getElem?_eq_some_iff.mp hl).1] at h
          cases h
          exact absurd rfl hw
        | double z =>
          simp only [gs_pre, hl] at h
          rw [List.getElem?_set_self (List.getElem?_eq_some_iff.mp hl).1] at h
          cases h
          exact absurd rfl hw
        | _ =>
          simp only [gs_pre, hl] at h
          cases h
          exact ⟨rfl, fun q => by cases q.2⟩
    · have e : (gs_pre ls (n + 1))[k]? = ls[k]? := by
        cases hl : ls[n]? with
        | none => simp only [gs_pre, hl]
        | some v => cases v <;> simp only [gs_pre, hl] <;> (exact List.getElem?_set_ne (Ne.symm hk))
      rw [e] at h
      exact ⟨h, fun q => hk (by omega)⟩
theorem gs_st1 {ad : Nat → Nat} {nL i : Nat} {lr lr' : Array Slot} {ls : List Value} {v : Value} (h : lv_has lr' nL ((i, vr ad v) :: (gs_prs ad ls).filter (fun q => !(q.1 == i) && !(q.1 + 1 == i && q.2.category == 2)))) : gs_LR ad nL lr' (st1 ls i v) := by
  refine ⟨h.1, h.2.1, fun k w hk hw => ?_⟩
  by_cases e : k = i
  · subst e
    have hl : k < (st1 ls k v).length := (List.getElem?_eq_some_iff.mp hk).1
    unfold st1 at hk hl
    rw [List.length_set] at hl
    rw [List.getElem?_set_self hl] at hk
    cases hk
    exact h.2.2 (k, vr ad v) List.mem_cons_self
  · unfold st1 at hk
    rw [List.getElem?_set_ne (Ne.symm e)] at hk
    obtain ⟨h1, h2⟩ := gs_pre_get hk hw
    refine h.2.2 (k, vr ad w) (List.mem_cons_of_mem _ (List.mem_filter.mpr ⟨gs_prs_mem h1 hw, ?_⟩))
    have h3 : ¬ (k + 1 = i ∧ (vr ad w).category = 2) := by rw [vr_cat]; exact h2
    simp only [Bool.and_eq_true, Bool.not_eq_true', beq_eq_false_iff_ne, ne_eq, Bool.and_eq_false_iff]
    refine ⟨e, ?_⟩
    by_cases q : k + 1 = i
    · exact Or.inr (fun z => h3 ⟨q, z⟩)
    · exact Or.inl q
theorem gs_st2 {ad : Nat → Nat} {nL i : Nat} {lr lr' : Array Slot} {ls : List Value} {v : Value} (h : lv_has lr' nL ((i, vr ad v) :: (gs_prs ad ls).filter (fun q => !(q.1 == i) && (!(q.1 == i + 1) && !(q.1 + 1 == i && q.2.category == 2))))) : gs_LR ad nL lr' (st2 ls i v) := by
  refine ⟨h.1, h.2.1, fun k w hk hw => ?_⟩
  unfold st2 at hk
  by_cases e2 : k = i + 1
  · subst e2
    have hl : i + 1 < (((gs_pre ls i).set i v).set (i + 1) gs_J).length := (List.getElem?_eq_some_iff.mp hk).1
    rw [List.length_set] at hl
    rw [List.getElem?_set_self hl] at hk
    cases hk
    exact absurd rfl hw
  · rw [List.getElem?_set_ne (Ne.symm e2)] at hk
    by_cases e : k = i
    · subst e
      have hl : k < ((gs_pre ls k).set k v).length := (List.getElem?_eq_some_iff.mp hk).1
      rw [List.length_set] at hl
      rw [List.getElem?_set_self hl] at hk
      cases hk
      exact h.2.2 (k, vr ad v) List.mem_cons_self
    · rw [List.getElem?_set_ne (Ne.symm e)] at hk
      obtain ⟨h1, h2⟩ := gs_pre_get hk hw
      refine h.2.2 (k, vr ad w) (List.mem_cons_of_mem _ (List.mem_filter.mpr ⟨gs_prs_mem h1 hw, ?_⟩))
      have h3 : ¬ (k + 1 = i ∧ (vr ad w).category = 2) := by rw [vr_cat]; exact h2
      simp only [Bool.and_eq_true, Bool.not_eq_true', beq_eq_false_iff_ne, ne_eq, Bool.and_eq_false_iff]
      refine ⟨e, e2, ?_⟩
      by_cases q : k + 1 = i
      · exact Or.inr (fun z => h3 ⟨q, z⟩)
      · exact Or.inl q
/-- the locals at a method's entry -/
def gs_lay (av : List Value) : List Value := av.flatMap fun v => if v.category = 2 then [v, gs_J] else [v]
theorem gs_entry (ad : Nat → Nat) (av : List Value) {nL : Nat} {ls : List Value} (hn : (lg_sl (av.map (vr ad))).length ≤ nL) (hls : gs_lay av ++ List.replicate (nL - (gs_lay av).length) gs_J = ls) : gs_LR ad nL ((lg_sl (av.map (vr ad)) ++ List.replicate (nL - (lg_sl (av.map (vr ad))).length) Slot.unset).toArray) ls := by
  obtain ⟨h1, h2, -⟩ := lv_entry (av.map (vr ad)) (n := nL) hn
  refine ⟨h1, h2, fun i v hi hv => ?_⟩
  subst hls
  have key : ∀ (av : List Value) (rest : List Slot) (r2 : List Value) (i : Nat), (∀ (i : Nat) (v : Value), r2[i]? = some v → v ≠ gs_J → rest[i]? = some (.val (vr ad v))) → (gs_lay av ++ r2)[i]? = some v → (lg_sl (av.map (vr ad)) ++ rest)[i]? = some (.val (vr ad v)) := by
    intro av
    induction av with
    | nil => intro rest r2 i hr h; exact hr i v h hv
    | cons x xs ih =>
      intro rest r2 i hr h
      by_cases hx : x.category = 2
      · have e1 : gs_lay (x :: xs) = x :: gs_J :: gs_lay xs := by unfold gs_lay; rw [List.flatMap_cons, if_pos hx]; rfl
        have e2 : lg_sl ((x :: xs).map (vr ad)) = .val (vr ad x) :: .second :: lg_sl (xs.map (vr ad)) := by unfold lg_sl; rw [List.map_cons, List.flatMap_cons, if_pos (by rw [vr_cat]; exact hx)]; rfl
        rw [e1] at h
        rw [e2]
        match i, h with
        | 0, h => cases h; rfl
        | 1, h => cases h; exact absurd rfl hv
        | k + 2, h => exact ih rest r2 k hr h
      · have e1 : gs_lay (x :: xs) = x :: gs_lay xs := by unfold gs_lay; rw [List.flatMap_cons, if_neg hx]; rfl
        have e2 : lg_sl ((x :: xs).map (vr ad)) = .val (vr ad x) :: lg_sl (xs.map (vr ad)) := by unfold lg_sl; rw [List.map_cons, List.flatMap_cons, if_neg (by rw [vr_cat]; exact hx)]; rfl
        rw [e1] at h
        rw [e2]
        match i, h with
        | 0, h => cases h; rfl
        | k + 1, h => exact ih rest r2 k hr h
  rw [List.getElem?_toArray]
  refine key av _ _ i (fun j w hj hw => ?_) hi
  have := List.eq_of_mem_replicate (List.mem_of_getElem? hj)
  exact absurd this hw
section GSJ
variable {p : Program} {l : Launch} {e : Env} {R : Room} {s : State} {m : MethodId} {args : Array Value} {below : List Frame} {meth : Method} {c : Code} {cells slots : Nat} {Q : State → Prop}
variable {ad : Nat → Nat} {g : va_G} {tyc : Nat → ClassId} {own : String} {cc : ByteArray} {nL : Nat} {ret : Option FieldType} {d : Nat}
variable {pc pc2 : Nat} {ls : List Value} {st : List Value} {μ : gs_M}
def WJ (p : Program) (l : Launch) (e : Env) (R : Room) (s : State) (m : MethodId) (args : Array Value) (below : List Frame) (meth : Method) (c : Code) (cells slots : Nat) (Q : State → Prop) (ad : Nat → Nat) (g : va_G) (tyc : Nat → ClassId) (nL : Nat) (pc : Nat) (ls st : List Value) (μ : gs_M) : Prop :=
  ∀ (H : Heap) (locs : List Loc) (lr : Array Slot), va_P g vwCl (gs_ws ad tyc μ) H → va_S (gs_A ad) s.heap H locs → gs_LR ad nL lr ls → W p l e R s m args below meth c H locs cells slots Q (F0 m pc lr (st.map (vr ad)))
/-- what holds in a method's body all along -/
def KC (p : Program) (R : Room) (s : State) (m : MethodId) (args : Array Value) (meth : Method) (c : Code) (ad : Nat → Nat) (g : va_G) (tyc : Nat → ClassId) (own : String) (cc : ByteArray) (nL : Nat) (ret : Option FieldType) (d : Nat) : Prop :=
  p.tables.exec = Jvm.exec ∧ c.code = cc ∧ meth.sig.returnType = ret ∧ meth.locks = false ∧ c.maxLocals = nL ∧ s.vm.findClass own = some m.cls ∧ (∀ w ∈ gs_tbl, w.before args s = true) ∧ gs_WU ad g tyc s ∧ d ≤ R.frames ∧ d * 64 ≤ R.locals
/-- an instruction with its place and the place behind it -/
def gd (cc : ByteArray) (pc : Nat) (i : Instr) (len pc2 : Nat) : Prop := decode cc pc = .ok (i, len) ∧ pc + len = pc2
theorem r_iconst (hK : KC p R s m args meth c ad g tyc own cc nL ret d) {n : Int} {v : Int32} (hd : gd cc pc (.iconst n) 1 pc2) (hv : Int32.ofInt n = v) (k : WJ p l e R s m args below meth c cells slots Q ad g tyc nL pc2 ls (.int v :: st) μ) : WJ p l e R s m args below meth c cells slots Q ad g tyc nL pc ls st μ := by
  obtain ⟨hd, rfl⟩ := hd
  exact fun H locs lr hP hS hl => lv_iconst hK.1 hK.2.1 hd hv (k H locs lr hP hS hl)
theorem r_bipush (hK : KC p R s m args meth c ad g tyc own cc nL ret d) {n : Int} {v : Int32} (hd : gd cc pc (.bipush n) 2 pc2) (hv : (Int8.ofInt n).toInt32 = v) (k : WJ p l e R s m args below meth c cells slots Q ad g tyc nL pc2 ls (.int v :: st) μ) : WJ p l e R s m args below meth c cells slots Q ad g tyc nL pc ls st μ := by
  obtain ⟨hd, rfl⟩ := hd
  exact fun H locs lr hP hS hl => lv_bipush hK.1 hK.2.1 hd hv (k H locs lr hP hS hl)
theorem r_sipush (hK : KC p R s m args meth c ad g tyc own cc nL ret d) {n : Int} {v : Int32} (hd : gd cc pc (.sipush n) 3 pc2) (hv : (Int16.ofInt n).toInt32 = v) (k : WJ p l e R s m args below meth c cells slots Q ad g tyc nL pc2 ls (.int v :: st) μ) : WJ p l e R s m args below meth c cells slots Q ad g tyc nL pc ls st μ := by
  obtain ⟨hd, rfl⟩ := hd
  exact fun H locs lr hP hS hl => lv_sipush hK.1 hK.2.1 hd hv (k H locs lr hP hS hl)
theorem r_ldc (hK : KC p R s m args meth c ad g tyc own cc nL ret d) {n : Nat} {v : Int32} (hd : gd cc pc (.ldc n) 2 pc2) (hc : Cond.constant own n v ∈ gs_tbl) (k : WJ p l e R s m args below meth c cells slots Q ad g tyc nL pc2 ls (.int v :: st) μ) : WJ p l e R s m args below meth c cells slots Q ad g tyc nL pc ls st μ := by
  obtain ⟨hd, rfl⟩ := hd
  obtain ⟨hx, hb, -, -, -, ho, ht, -⟩ := hK
  exact fun H locs lr hP hS hl => lv_ldc hx hb ho (ht _ hc) hd (k H locs lr hP hS hl)
theorem r_ldcw (hK : KC p R s m args meth c ad g tyc own cc nL ret d) {n : Nat} {v : Int32} (hd : gd cc pc (.ldc_w n) 3 pc2) (hc : Cond.constant own n v ∈ gs_tbl) (k : WJ p l e R s m args below meth c cells slots Q ad g tyc nL pc2 ls (.int v :: st) μ) : WJ p l e R s m args below meth c cells slots Q ad g tyc nL pc ls st μ := by
  obtain ⟨hd, rfl⟩ := hd
  obtain ⟨hx, hb, -, -, -, ho, ht, -⟩ := hK
  exact fun H locs lr hP hS hl => lv_ldcw hx hb ho (ht _ hc) hd (k H locs lr hP hS hl)
theorem r_ldc2 (hK : KC p R s m args meth c ad g tyc own cc nL ret d) {n : Nat} {v : Int64} (hd : gd cc pc (.ldc2_w n) 3 pc2) (hc : Cond.constantLong own n v ∈ gs_tbl) (k : WJ p l e R s m args below meth c cells slots Q ad g tyc nL pc2 ls (.long v :: st) μ) : WJ p l e R s m args below meth c cells slots Q ad g tyc nL pc ls st μ := by
  obtain ⟨hd, rfl⟩ := hd
  obtain ⟨hx, hb, -, -, -, ho, ht, -⟩ := hK
  exact fun H locs lr hP hS hl => lv_ldc2 hx hb ho (ht _ hc) hd (k H locs lr hP hS hl)
theorem r_lconst (hK : KC p R s m args meth c ad g tyc own cc nL ret d) {n : Fin 2} {v : Int64} (hd : gd cc pc (.lconst n) 1 pc2) (hv : Int64.ofNat (n : Nat) = v) (k : WJ p l e R s m args below meth c cells slots Q ad g tyc nL pc2 ls (.long v :: st) μ) : WJ p l e R s m args below meth c cells slots Q ad g tyc nL pc ls st μ := by
  obtain ⟨hd, rfl⟩ := hd
  exact fun H locs lr hP hS hl => lv_lconst hK.1 hK.2.1 hd hv (k H locs lr hP hS hl)
end GSJ
