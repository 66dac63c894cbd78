/-! the words that every method has: those of the tables that stay, and the nest's links -/
def gs_tbl : List Cond := lw_tbl.filter goodWord
theorem gs_t {w : Cond} (i : Nat) (h : tables_1[i]? = some w) (hg : goodWord w = true) : w ∈ gs_tbl := List.mem_filter.mpr ⟨List.mem_append_right _ (List.mem_of_getElem? h), hg⟩
theorem gs_s {w : Cond} (i : Nat) (h : (k2_sels lw_privs)[i]? = some w) (hg : goodWord w = true) : w ∈ gs_tbl := List.mem_filter.mpr ⟨List.mem_append_left _ (List.mem_of_getElem? h), hg⟩
def gs_isN (w : Cond) : Bool := match w with
  | .fieldLinkNest .. => true
  | .methodLinkNest .. => true
  | _ => false
def gs_nest : List Cond := tables_1.filter gs_isN
theorem gs_n {w : Cond} (i : Nat) (h : tables_1[i]? = some w) (hg : gs_isN w = true) : w ∈ gs_nest := List.mem_filter.mpr ⟨List.mem_of_getElem? h, hg⟩
theorem gs_sub {ws : List Cond} (h : ∀ w ∈ ws, w ∈ gs_tbl) : GoodIn gs_tbl ws := fun w hw => ⟨h w hw, good_of_word (List.mem_filter.mp (h w hw)).2⟩
/-! memory: the ints and the longs that the cells hold, by place and index -/
abbrev gs_M : Type := (Nat → Nat → Int32) × (Nat → Nat → Int64)
def gI (μ : gs_M) (a j : Nat) : Int32 := μ.1 a j
def gL (μ : gs_M) (a j : Nat) : Int64 := μ.2 a j
def sI (μ : gs_M) (a j : Nat) (v : Int32) : gs_M := (fun b => if b = a then upd (μ.1 a) j v else μ.1 b, μ.2)
def sL (μ : gs_M) (a j : Nat) (v : Int64) : gs_M := (μ.1, fun b => if b = a then vp_updL (μ.2 a) j v else μ.2 b)
/-! the layout: kind and length of each place; the places that the references hold -/
def gs_kl : List (Nat × Nat) := [(10, 20), (7, 2), (20, 160), (2, 6), (20, 20), (4, 5), (20, 160), (8, 4), (20, 6), (20, 120), (8, 4), (20, 6), (20, 120), (8, 4), (20, 6), (20, 120),
  (5, 6), (20, 6), (24, 4), (20, 160), (20, 160), (20, 160), (20, 160), (20, 4), (20, 160), (6, 3),
  (9, 7), (23, 4), (1, 14), (20, 12), (1, 14), (20, 12), (1, 14), (20, 12), (1, 14), (20, 12),
  (9, 7), (23, 4), (1, 14), (20, 12), (1, 14), (20, 12), (1, 14), (20, 12), (1, 14), (20, 12),
  (9, 7), (23, 4), (1, 14), (20, 12), (1, 14), (20, 12), (1, 14), (20, 12), (1, 14), (20, 12),
  (9, 7), (23, 4), (1, 14), (20, 12), (1, 14), (20, 12), (1, 14), (20, 12), (1, 14), (20, 12),
  (3, 3), (20, 6), (20, 6), (3, 3), (20, 6), (20, 6), (20, 20), (0, 2), (20, 60), (20, 8), (20, 3), (20, 3),
  (11, 52), (21, 160), (21, 640), (20, 4), (20, 128), (20, 35), (20, 80), (20, 140), (20, 4), (20, 7), (25, 3), (20, 81), (20, 81), (20, 81), (20, 6), (20, 6), (20, 20), (20, 60), (20, 6), (20, 6), (22, 1)]
def gs_rl : List (List Nat) := [[1, 3, 5, 7, 10, 13, 16, 25, 26, 36, 46, 56, 66, 69, 72, 0, 73, 75, 76, 77], [2], [], [1, 0, 0, 4], [], [1, 0, 0, 6], [], [0, 8, 9], [], [], [0, 11, 12], [], [], [0, 14, 15], [], [],
  [17, 0, 18, 23, 24], [], [19, 20, 21, 22], [], [], [], [], [], [], [],
  [27, 0, 0, 0, 0, 0, 25], [28, 30, 32, 34], [29], [], [31], [], [33], [], [35], [],
  [37, 0, 0, 0, 0, 0, 25], [38, 40, 42, 44], [39], [], [41], [], [43], [], [45], [],
  [47, 0, 0, 0, 0, 0, 25], [48, 50, 52, 54], [49], [], [51], [], [53], [], [55], [],
  [57, 0, 0, 0, 0, 0, 25], [58, 60, 62, 64], [59], [], [61], [], [63], [], [65], [],
  [67, 68], [], [], [70, 71], [], [], [], [74], [], [], [], [],
  [0, 79, 80, 81, 82, 0, 0, 0, 0, 0, 0, 0, 0, 0, 0, 105, 106, 0, 83, 84, 85, 86, 87, 88, 0, 0, 0, 0, 0, 0, 89, 90, 91, 0, 0, 0, 0, 0, 0, 92, 93, 0, 94, 0, 95, 0, 96, 97], [], [], [], [], [], [], [], [], [], [107, 108, 109]]
/-- the kinds of a class's fields: 0 an int, 1 a long, 2 a reference that stays, 3 one that changes, 4 a boolean -/
def gs_fl : List (List Nat) := [[2, 0], [2, 0, 0, 0, 0, 0, 0, 0, 0, 0, 0, 0, 0, 0], [2, 0, 0, 2, 0, 0], [2, 2, 0], [2, 0, 0, 2, 0], [2, 0, 2, 2, 2, 0], [0, 0, 0], [2, 0], [0, 2, 2, 0], [2, 0, 0, 0, 4, 1, 2],
  [2, 2, 2, 2, 2, 2, 2, 2, 2, 2, 2, 2, 2, 2, 2, 0, 2, 2, 2, 2],
  [0, 2, 2, 2, 2, 3, 0, 0, 0, 0, 0, 0, 0, 0, 0, 2, 2, 4, 2, 2, 2, 2, 2, 2, 0, 0, 0, 0, 0, 0, 2, 2, 2, 1, 1, 1, 4, 0, 0, 2, 2, 0, 2, 0, 2, 0, 2, 2, 0, 0, 0, 0]]
def kd (a : Nat) : Nat := (gs_kl.getD a (99, 0)).1
def ln (a : Nat) : Nat := (gs_kl.getD a (99, 0)).2
def R0 (a j : Nat) : Nat := (gs_rl.getD a []).getD j 0
def fk (c k : Nat) : Nat := (gs_fl.getD c []).getD k 9
theorem gs_len : gs_kl.length = 99 := by decide +kernel
theorem kd_lt {a : Nat} (h : kd a ≠ 99) : a < 99 := by
  rcases Nat.lt_or_ge a 99 with q | q
  · exact q
  · exact absurd (by unfold kd; rw [List.getD_eq_getElem?_getD, List.getElem?_eq_none (by rw [gs_len]; exact q)]; rfl) h
/-! a cell as its place has it -/
def vr (ad : Nat → Nat) (v : Value) : Value := match v with
  | .ref k => .ref (ad k)
  | w => w
def gs_fv (ad : Nat → Nat) (μ : gs_M) (c a k : Nat) : Value := match fk c k with
  | 0 => .int (gI μ a k)
  | 1 => .long (gL μ a k)
  | 2 => .ref (ad (R0 a k))
  | 3 => .ref (ad (gI μ a k).toNatClampNeg)
  | 4 => .int (gI μ a k)
  | _ => .null
def gs_cell (ad : Nat → Nat) (tyc : Nat → ClassId) (μ : gs_M) (a : Nat) : va_E := match kd a with
  | 20 => .inl (tyc 0, ln a, .inl (μ.1 a))
  | 21 => .inl (tyc 1, ln a, .inl (μ.1 a))
  | 22 => .inl (tyc 2, ln a, .inr (.inl (μ.2 a)))
  | 23 => .inl (tyc 3, ln a, .inr (.inr (.inr (.inr (fun i => some (ad (R0 a i)))))))
  | 24 => .inl (tyc 4, ln a, .inr (.inr (.inr (.inr (fun i => some (ad (R0 a i)))))))
  | 25 => .inl (tyc 5, ln a, .inr (.inr (.inr (.inr (fun i => some (ad (R0 a i)))))))
  | c => .inr (c, (List.range (ln a)).map (gs_fv ad μ c a))
def gs_ws (ad : Nat → Nat) (tyc : Nat → ClassId) (μ : gs_M) : va_W := (List.range 99).map (fun a => (ad a, gs_cell ad tyc μ a))
def gs_tys (tyc : Nat → ClassId) : List (ClassId × FieldType) := [(tyc 0, .int), (tyc 1, .byte), (tyc 2, .long), (tyc 3, .object "GrainShift$Hold"), (tyc 4, .array .int), (tyc 5, .object "java/lang/String")]
def gs_A (ad : Nat → Nat) : Nat → Prop := fun q => ∃ a, a < 99 ∧ ad a = q
def gs_inj (ad : Nat → Nat) : Prop := ∀ a b, a < 99 → b < 99 → ad a = ad b → a = b
theorem gs_get {ad : Nat → Nat} {tyc : Nat → ClassId} {μ : gs_M} {a : Nat} (h : a < 99) : (gs_ws ad tyc μ)[a]? = some (ad a, gs_cell ad tyc μ a) := by
  unfold gs_ws; rw [List.getElem?_map, List.getElem?_range h]; rfl
theorem gs_set {ad : Nat → Nat} {tyc : Nat → ClassId} {μ μ' : gs_M} {a : Nat} (h : a < 99) (h1 : ∀ b, b ≠ a → μ'.1 b = μ.1 b) (h2 : ∀ b, b ≠ a → μ'.2 b = μ.2 b) : (gs_ws ad tyc μ).set a (ad a, gs_cell ad tyc μ' a) = gs_ws ad tyc μ' := by
  apply List.ext_getElem?
  intro k
  by_cases hk : k = a
  · subst hk
    rw [List.getElem?_set_self (by simp [gs_ws]; exact h), gs_get h]
  · rw [List.getElem?_set_ne (Ne.symm hk)]
    by_cases hl : k < 99
    · rw [gs_get hl, gs_get hl]
      have e : gs_cell ad tyc μ k = gs_cell ad tyc μ' k := by
        unfold gs_cell gs_fv gI gL
        rw [h1 k hk, h2 k hk]
      rw [e]
    · rw [List.getElem?_eq_none (by simp [gs_ws]; omega), List.getElem?_eq_none (by simp [gs_ws]; omega)]
theorem gs_D {ad : Nat → Nat} {tyc : Nat → ClassId} {μ : gs_M} (h : gs_inj ad) : va_D (gs_A ad) (gs_ws ad tyc μ) := by
  have key : ∀ (k : Nat) (q : Nat × va_E), (gs_ws ad tyc μ)[k]? = some q → k < 99 ∧ q.1 = ad k := by
    intro k q hq
    by_cases hl : k < 99
    · rw [gs_get hl] at hq; cases hq; exact ⟨hl, rfl⟩
    · rw [List.getElem?_eq_none (by simp [gs_ws]; omega)] at hq; cases hq
  refine ⟨fun i j x y hi hj hxy => ?_, fun k q hk => ?_⟩
  · obtain ⟨a1, a2⟩ := key i x hi
    obtain ⟨b1, b2⟩ := key j y hj
    exact h i j a1 b1 (by rw [← a2, ← b2]; exact hxy)
  · obtain ⟨a1, a2⟩ := key k q hk
    exact ⟨k, a1, a2.symm⟩
/-! what was there before: the class's static arrays, the reference's texts -/
def gs_ca : List (List Int32) := [[114, 115, 109, 108, 119, 99, 104, 0, 0, 0, 103, 102, 116, 98, 107], [0, 0, 0, 0, 1, 2, 4, 0, 0, 0, 0, 0, 0, 0, 0], [20, 30, 30, 999, 9, 12, 40, 0, 0, 0, 5, 480, 1, 40, 3], [6, 0, 0, 500, 2, 8, 20, 0, 0, 0, 0, 0, 0, 0, 0], [108, 100, 115, 119, 98, 109]]
def cA (k i : Nat) : Int32 := (gs_ca.getD k []).getD i 0
def gs_st (ad : Nat → Nat) (U : State) (H : Heap) (k N : Nat) (ty : FieldType) (n d : String) : Prop := va_Z "GrainShift" n d (.ref (ad (100 + k))) (gs_A ad) U H ∧ va_T ty (ad (100 + k)) N (fun i => .int (cA k i)) (gs_A ad) U H
def gs_sl : List Nat := [1, 6, 5, 2, 5]
def gs_sb : List (List Int32) := [[121], [108, 100, 115, 119, 98, 109], [114, 115, 109, 108, 119], [99, 104], [103, 102, 116, 98, 107]]
def cS (k i : Nat) : Int32 := (gs_sb.getD k []).getD i 0
/-- a static of which only this is known: null, or a reference -/
def gs_zq (ad : Nat → Nat) (U : State) (H : Heap) (k : Nat) (C n d : String) : Prop := va_Z C n d .null (gs_A ad) U H ∨ va_Z C n d (.ref (ad k)) (gs_A ad) U H
theorem gs_zq.kept {ad : Nat → Nat} {U : State} {H H1 : Heap} {k : Nat} {C n d : String} (h : gs_zq ad U H k C n d) (hq : ∀ a : Nat, a < H.size → ¬ gs_A ad a → H1[a]? = H[a]?) : gs_zq ad U H1 k C n d := h.elim (fun h => Or.inl (h.kept hq)) (fun h => Or.inr (h.kept hq))
theorem gs_zq.moved {ad : Nat → Nat} {u U : State} {H : Heap} {k : Nat} {C n d : String} (hvm : u.vm.Alike U.vm) (h : gs_zq ad u H k C n d) : gs_zq ad U H k C n d := h.elim (fun h => Or.inl (h.moved hvm)) (fun h => Or.inr (h.moved hvm))
def gs_Old (ad : Nat → Nat) (U : State) (H : Heap) : Prop :=
  gs_st ad U H 0 15 .char "ITEM_LETTERS" "[C" ∧ gs_st ad U H 1 15 .int "ITEM_LOWS" "[I" ∧ gs_st ad U H 2 15 .int "ITEM_HIGHS" "[I" ∧ gs_st ad U H 3 15 .int "ITEM_USUAL" "[I" ∧ gs_st ad U H 4 6 .char "RULE_LETTERS" "[C" ∧
  vk_S 5 gs_sl gs_sb (fun i => ad (105 + i)) (fun i => ad (110 + i)) (gs_A ad) U H ∧ va_Z "java/lang/String" "COMPACT_STRINGS" "Z" (.int 1) (gs_A ad) U H ∧ gs_zq ad U H 115 "jdk/internal/util/Preconditions" "SIOOBE_FORMATTER" "Ljava/util/function/BiFunction;" ∧ gs_zq ad U H 116 "java/lang/Throwable" "UNASSIGNED_STACK" "[Ljava/lang/StackTraceElement;" ∧ gs_zq ad U H 117 "java/lang/Throwable" "SUPPRESSED_SENTINEL" "Ljava/util/List;"
theorem gs_st.kept {ad : Nat → Nat} {U : State} {H H1 : Heap} {k N : Nat} {ty : FieldType} {n d : String} (h : gs_st ad U H k N ty n d) (hq : ∀ a : Nat, a < H.size → ¬ gs_A ad a → H1[a]? = H[a]?) : gs_st ad U H1 k N ty n d := ⟨h.1.kept hq, h.2.kept hq⟩
theorem gs_st.moved {ad : Nat → Nat} {u U : State} {H : Heap} {k N : Nat} {ty : FieldType} {n d : String} (hvm : u.vm.Alike U.vm) (h : gs_st ad u H k N ty n d) : gs_st ad U H k N ty n d := ⟨h.1.moved hvm, h.2.moved hvm⟩
theorem gs_Old.kept {ad : Nat → Nat} {U : State} {H H1 : Heap} (h : gs_Old ad U H) (hq : ∀ a : Nat, a < H.size → ¬ gs_A ad a → H1[a]? = H[a]?) : gs_Old ad U H1 := by
  obtain ⟨a1, a2, a3, a4, a5, a6, a7, a8, a9, a10⟩ := h
  exact ⟨a1.kept hq, a2.kept hq, a3.kept hq, a4.kept hq, a5.kept hq, a6.kept hq, a7.kept hq, a8.kept hq, a9.kept hq, a10.kept hq⟩
theorem gs_Old.moved {ad : Nat → Nat} {u U : State} {H : Heap} (hvm : u.vm.Alike U.vm) (h : gs_Old ad u H) : gs_Old ad U H := by
  obtain ⟨a1, a2, a3, a4, a5, a6, a7, a8, a9, a10⟩ := h
  exact ⟨a1.moved hvm, a2.moved hvm, a3.moved hvm, a4.moved hvm, a5.moved hvm, a6.moved hvm, a7.moved hvm, a8.moved hvm, a9.moved hvm, a10.moved hvm⟩
/-- the reference's texts as its pool has them -/
def gs_VR (ad : Nat → Nat) (U : State) : Prop := vk_R "GrainShiftModel" 26 "y" (ad 105) U ∧ vk_R "GrainShiftModel" 32 "ldswbm" (ad 106) U
/-- what a state says of the tables and of what was there before -/
def gs_WU (ad : Nat → Nat) (g : va_G) (tyc : Nat → ClassId) (U : State) : Prop := va_K g vwCl (gs_tys tyc) U ∧ (∀ w ∈ gs_nest, va_Nw w U) ∧ gs_Old ad U U.heap ∧ gs_inj ad ∧ gs_VR ad U
theorem gs_WU.go {ad : Nat → Nat} {g : va_G} {tyc : Nat → ClassId} {s U : State} {H : Heap} {locs : List Loc} (h : gs_WU ad g tyc s) (hS : va_S (gs_A ad) s.heap H locs) (hU : U.heap = H) (hW : s.WarmedH U.vm) : gs_WU ad g tyc U := by
  obtain ⟨h1, h2, h3, h4, h5⟩ := h
  refine ⟨h1.moved hW.alike, fun w hw => ?_, ?_, h4, h5.1.warm hW, h5.2.warm hW⟩
  · have hz := h2 w hw
    have hi : gs_isN w = true := (List.mem_filter.mp hw).2
    cases w <;> first | (exact va_Nw.warmF hW hz) | (exact va_Nw.warmM hW hz) | (cases hi)
  · rw [hU]
    exact (h3.kept hS.2.1).moved hW.alike
theorem gs_WU.calling {ad : Nat → Nat} {g : va_G} {tyc : Nat → ClassId} {U : State} {f : JFrame} {mk : MethodId} {a : Array Value} (h : gs_WU ad g tyc U) : gs_WU ad g tyc (U.calling f mk a) := by
  obtain ⟨h1, h2, h3, h4, h5⟩ := h
  refine ⟨va_K.moved (u := U) (U := U.calling f mk a) (Vm.Alike.refl U.vm) h1, fun w hw => ?_, gs_Old.moved (u := U) (U := U.calling f mk a) (Vm.Alike.refl U.vm) h3, h4, vk_R.same (u := U) rfl h5.1, vk_R.same (u := U) rfl h5.2⟩
  have hz := h2 w hw
  have hi : gs_isN w = true := (List.mem_filter.mp hw).2
  cases w <;> first | (exact va_Nw.same rfl (u := U) rfl hz) | (cases hi)
