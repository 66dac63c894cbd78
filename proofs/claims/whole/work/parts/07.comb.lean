/-! the words of the functions that the code is turned into -/
def lt1 {α β : Type} (x : α) (f : α → β) : β := f x
def ck {α : Type} (b : Bool) (x : Option α) : Option α := match b with
  | true => x
  | false => none
def bd {ρ α : Type} (x : Option (ρ × gs_M)) (f : ρ → gs_M → Option α) : Option α := match x with
  | some q => f q.1 q.2
  | none => none
def bd0 {α : Type} (x : Option gs_M) (f : gs_M → Option α) : Option α := match x with
  | some q => f q
  | none => none
def inb (i : Int32) (n : Nat) : Bool := decide (0 ≤ i) && decide (i.toNatClampNeg < n)
def nzi (x : Int32) : Bool := decide (¬ x = 0)
def nzl (x : Int64) : Bool := decide (¬ x = 0)
def zb (x : Int32) : Bool := decide (x = 0 ∨ x = 1)
def isk (a k : Nat) : Bool := decide (kd a = k)
theorem ck_e {α : Type} {b : Bool} {x : Option α} {r : α} (h : ck b x = some r) : b = true ∧ x = some r := by
  cases b with
  | true => exact ⟨rfl, h⟩
  | false => cases h
theorem bd_e {ρ α : Type} {x : Option (ρ × gs_M)} {f : ρ → gs_M → Option α} {r : α} (h : bd x f = some r) : ∃ (q : ρ) (μ : gs_M), x = some (q, μ) ∧ f q μ = some r := by
  cases x with
  | none => cases h
  | some q => exact ⟨q.1, q.2, rfl, h⟩
theorem bd0_e {α : Type} {x : Option gs_M} {f : gs_M → Option α} {r : α} (h : bd0 x f = some r) : ∃ (μ : gs_M), x = some μ ∧ f μ = some r := by
  cases x with
  | none => cases h
  | some q => exact ⟨q, rfl, h⟩
theorem if_t {α : Type} {c : Prop} [Decidable c] {a b : Option α} {r : α} (h : (if c then a else b) = some r) (hc : c) : a = some r := by rw [if_pos hc] at h; exact h
theorem if_f {α : Type} {c : Prop} [Decidable c] {a b : Option α} {r : α} (h : (if c then a else b) = some r) (hc : ¬ c) : b = some r := by rw [if_neg hc] at h; exact h
theorem if_nf {α : Type} {c : Prop} [Decidable c] {a b : Option α} {r : α} (h : (if ¬ c then a else b) = some r) (hc : c) : b = some r := by rw [if_neg (fun q => q hc)] at h; exact h
theorem inb_in {i : Int32} {n : Nat} (h : inb i n = true) : vp_in i n := by
  unfold inb at h
  rw [Bool.and_eq_true, decide_eq_true_eq, decide_eq_true_eq] at h
  rintro (q | q)
  · rw [Int32.lt_iff_toInt_lt] at q
    have h1 := h.1
    rw [Int32.le_iff_toInt_le] at h1
    exact absurd h1 (by omega)
  · omega
theorem inb_lt {i : Int32} {n : Nat} (h : inb i n = true) : i.toNatClampNeg < n := by
  unfold inb at h
  rw [Bool.and_eq_true, decide_eq_true_eq, decide_eq_true_eq] at h
  exact h.2
theorem nzi_e {x : Int32} (h : nzi x = true) : ¬ x = 0 := of_decide_eq_true h
theorem nzl_e {x : Int64} (h : nzl x = true) : ¬ x = 0 := of_decide_eq_true h
theorem zb_e {x : Int32} (h : zb x = true) : x = 0 ∨ x = 1 := of_decide_eq_true h
theorem isk_e {a k : Nat} (h : isk a k = true) : kd a = k := of_decide_eq_true h
theorem sw_out {x : Int32} {lo hi : Int} (h : ∀ k : Int, lo ≤ k → k ≤ hi → ¬ x = Int32.ofInt k) : x.toInt < lo ∨ hi < x.toInt := by
  by_cases h1 : x.toInt < lo
  · exact Or.inl h1
  · by_cases h2 : hi < x.toInt
    · exact Or.inr h2
    · exact absurd (Int32.ofInt_toInt x).symm (h x.toInt (by omega) (by omega))
/-! what the layout says -/
theorem ly_hold : ∀ a, kd a = 1 → R0 a 0 = a + 1 ∧ kd (a + 1) = 20 ∧ ln (a + 1) = 12 := by
  have h : ∀ a, a < 99 → kd a = 1 → R0 a 0 = a + 1 ∧ kd (a + 1) = 20 ∧ ln (a + 1) = 12 := by decide +kernel
  exact fun a ha => h a (kd_lt (by omega)) ha
theorem ly_told : ∀ a, kd a = 8 → (R0 a 1 = a + 1 ∧ kd (a + 1) = 20 ∧ ln (a + 1) = 6) ∧ (R0 a 2 = a + 2 ∧ kd (a + 2) = 20 ∧ ln (a + 2) = 120) := by
  have h : ∀ a, a < 99 → kd a = 8 → (R0 a 1 = a + 1 ∧ kd (a + 1) = 20 ∧ ln (a + 1) = 6) ∧ (R0 a 2 = a + 2 ∧ kd (a + 2) = 20 ∧ ln (a + 2) = 120) := by decide +kernel
  exact fun a ha => h a (kd_lt (by omega)) ha
theorem ly_pairs : ∀ a, kd a = 3 → (R0 a 0 = a + 1 ∧ kd (a + 1) = 20 ∧ ln (a + 1) = 6) ∧ (R0 a 1 = a + 2 ∧ kd (a + 2) = 20 ∧ ln (a + 2) = 6) := by
  have h : ∀ a, a < 99 → kd a = 3 → (R0 a 0 = a + 1 ∧ kd (a + 1) = 20 ∧ ln (a + 1) = 6) ∧ (R0 a 1 = a + 2 ∧ kd (a + 2) = 20 ∧ ln (a + 2) = 6) := by decide +kernel
  exact fun a ha => h a (kd_lt (by omega)) ha
theorem ly_ves : ∀ a, kd a = 9 → (R0 a 0 = a + 1 ∧ kd (a + 1) = 23 ∧ ln (a + 1) = 4) ∧ R0 a 6 = 25 := by
  have h : ∀ a, a < 99 → kd a = 9 → (R0 a 0 = a + 1 ∧ kd (a + 1) = 23 ∧ ln (a + 1) = 4) ∧ R0 a 6 = 25 := by decide +kernel
  exact fun a ha => h a (kd_lt (by omega)) ha
theorem ly_vh : ∀ a, kd a = 9 → ∀ i, i < 4 → R0 (a + 1) i = a + 2 + 2 * i ∧ kd (a + 2 + 2 * i) = 1 := by
  have h : ∀ a, a < 99 → kd a = 9 → ∀ i, i < 4 → R0 (a + 1) i = a + 2 + 2 * i ∧ kd (a + 2 + 2 * i) = 1 := by decide +kernel
  exact fun a ha => h a (kd_lt (by omega)) ha
theorem ly_rd2 : ∀ a, kd a = 2 → R0 a 0 = 1 := by
  have h : ∀ a, a < 99 → kd a = 2 → R0 a 0 = 1 := by decide +kernel
  exact fun a ha => h a (kd_lt (by omega)) ha
theorem ly_rd4 : ∀ a, kd a = 4 → R0 a 0 = 1 := by
  have h : ∀ a, a < 99 → kd a = 4 → R0 a 0 = 1 := by decide +kernel
  exact fun a ha => h a (kd_lt (by omega)) ha
theorem ly_18 : ∀ i, i < 4 → R0 18 i = 19 + i ∧ kd (19 + i) = 20 ∧ ln (19 + i) = 160 := by decide +kernel
theorem ly_88 : ∀ i, i < 3 → R0 88 i = 107 + i := by decide +kernel
section GSX
variable {p : Program} {l : Launch} {e : Env} {R : Room} {s : State} {m : MethodId} {args : Array Value} {below : List Frame} {meth : Method} {c : Code} {cells slots : Nat} {Q : State → Prop}
variable {ad : Nat → Nat} {g : va_G} {tyc : Nat → ClassId} {own : String} {cc : ByteArray} {nL : Nat} {ret : Option FieldType} {d : Nat}
variable {pc pc2 : Nat} {ls ls2 : List Value} {st : List Value} {μ : gs_M} {α : Type} {r : α}
theorem r_lti {x : Int32} {f : Int32 → Option α} (h : lt1 x f = some r) (k : ∀ y, f y = some r → WJ p l e R s m args below meth c cells slots Q ad g tyc nL pc ls (.int y :: st) μ) : WJ p l e R s m args below meth c cells slots Q ad g tyc nL pc ls (.int x :: st) μ := k x h
theorem r_ltl {x : Int64} {f : Int64 → Option α} (h : lt1 x f = some r) (k : ∀ y, f y = some r → WJ p l e R s m args below meth c cells slots Q ad g tyc nL pc ls (.long y :: st) μ) : WJ p l e R s m args below meth c cells slots Q ad g tyc nL pc ls (.long x :: st) μ := k x h
theorem r_ltm {f : gs_M → Option α} (h : lt1 μ f = some r) (k : ∀ y, f y = some r → WJ p l e R s m args below meth c cells slots Q ad g tyc nL pc ls st y) : WJ p l e R s m args below meth c cells slots Q ad g tyc nL pc ls st μ := k μ h
/-- a reference by another name -/
theorem r_ref {a b : Nat} (h : a = b) (k : WJ p l e R s m args below meth c cells slots Q ad g tyc nL pc ls (.ref b :: st) μ) : WJ p l e R s m args below meth c cells slots Q ad g tyc nL pc ls (.ref a :: st) μ := h ▸ k
/-- locals that nobody reads any more -/
def gs_jk (bs : List Bool) (ls : List Value) : List Value := List.zipWith (fun b v => match b with
  | true => v
  | false => gs_J) bs ls
theorem r_junk (bs : List Bool) (h : gs_jk bs ls = ls2) (k : WJ p l e R s m args below meth c cells slots Q ad g tyc nL pc ls2 st μ) : WJ p l e R s m args below meth c cells slots Q ad g tyc nL pc ls st μ := by
  subst h
  intro H locs lr hP hS hl
  refine k H locs lr hP hS ⟨hl.1, hl.2.1, fun i v hi hv => hl.2.2 i v ?_ hv⟩
  unfold gs_jk at hi
  rw [List.getElem?_zipWith] at hi
  cases hb : bs[i]? with
  | none => rw [hb] at hi; cases hi
  | some b =>
    cases hx : ls[i]? with
    | none => rw [hb, hx] at hi; cases hi
    | some w =>
      rw [hb, hx] at hi
      cases b with
      | true => cases hi; rfl
      | false => cases hi; exact absurd rfl hv
theorem r_mmax (hK : KC p R s m args meth c ad g tyc own cc nL ret d) {x y : Int32} {idx : Nat} (hd : gd cc pc (.invokestatic idx) 3 pc2) (h1 : Cond.methodLink own idx Lib.Math.max.name ∈ gs_tbl) (h2 : Cond.static Lib.Math.max.name ∈ gs_tbl) (h3 : Cond.initialized "java/lang/Math" ∈ gs_tbl) (h4 : Cond.code Lib.Math.max.name Lib.Math.max.code 2 (some .int) ∈ gs_tbl) (h8 : (st.map fun v => v.category).sum ≤ 8) (hdd : 1 ≤ d) (hcs : cells ≤ R.cells ∧ slots ≤ R.slots) (kk : WJ p l e R s m args below meth c cells slots Q ad g tyc nL pc2 ls (.int (if x < y then y else x) :: st) μ) : WJ p l e R s m args below meth c cells slots Q ad g tyc nL pc ls (.int y :: .int x :: st) μ := by
  obtain ⟨hd, rfl⟩ := hd
  obtain ⟨hx, hb, -, -, hml, hown, ht, hW, hf1, hf2⟩ := hK
  exact fun H locs lr hP hS hl => va_mmax hx hb (hml.trans hl.1.symm) hown (ht _ h1) (ht _ h2) (ht _ h3) (ht _ h4) (by omega) (by rw [gs_cat]; omega) hcs.1 hcs.2 hd (kk H locs lr hP hS hl)
theorem r_mmin (hK : KC p R s m args meth c ad g tyc own cc nL ret d) {x y : Int32} {idx : Nat} (hd : gd cc pc (.invokestatic idx) 3 pc2) (h1 : Cond.methodLink own idx Lib.Math.min.name ∈ gs_tbl) (h2 : Cond.static Lib.Math.min.name ∈ gs_tbl) (h3 : Cond.initialized "java/lang/Math" ∈ gs_tbl) (h4 : Cond.code Lib.Math.min.name Lib.Math.min.code 2 (some .int) ∈ gs_tbl) (h8 : (st.map fun v => v.category).sum ≤ 8) (hdd : 1 ≤ d) (hcs : cells ≤ R.cells ∧ slots ≤ R.slots) (kk : WJ p l e R s m args below meth c cells slots Q ad g tyc nL pc2 ls (.int (if y < x then y else x) :: st) μ) : WJ p l e R s m args below meth c cells slots Q ad g tyc nL pc ls (.int y :: .int x :: st) μ := by
  obtain ⟨hd, rfl⟩ := hd
  obtain ⟨hx, hb, -, -, hml, hown, ht, hW, hf1, hf2⟩ := hK
  exact fun H locs lr hP hS hl => va_mmin hx hb (hml.trans hl.1.symm) hown (ht _ h1) (ht _ h2) (ht _ h3) (ht _ h4) (by omega) (by rw [gs_cat]; omega) hcs.1 hcs.2 hd (kk H locs lr hP hS hl)
theorem r_mabs (hK : KC p R s m args meth c ad g tyc own cc nL ret d) {x : Int32} {idx : Nat} (hd : gd cc pc (.invokestatic idx) 3 pc2) (h1 : Cond.methodLink own idx Lib.Math.abs.name ∈ gs_tbl) (h2 : Cond.static Lib.Math.abs.name ∈ gs_tbl) (h3 : Cond.initialized "java/lang/Math" ∈ gs_tbl) (h4 : Cond.code Lib.Math.abs.name Lib.Math.abs.code 1 (some .int) ∈ gs_tbl) (h8 : (st.map fun v => v.category).sum ≤ 8) (hdd : 1 ≤ d) (hcs : cells ≤ R.cells ∧ slots ≤ R.slots) (kk : WJ p l e R s m args below meth c cells slots Q ad g tyc nL pc2 ls (.int (if 0 ≤ x then x else 0 - x) :: st) μ) : WJ p l e R s m args below meth c cells slots Q ad g tyc nL pc ls (.int x :: st) μ := by
  obtain ⟨hd, rfl⟩ := hd
  obtain ⟨hx, hb, -, -, hml, hown, ht, hW, hf1, hf2⟩ := hK
  exact fun H locs lr hP hS hl => va_mabs hx hb (hml.trans hl.1.symm) hown (ht _ h1) (ht _ h2) (ht _ h3) (ht _ h4) (by omega) (by rw [gs_cat]; omega) hcs.1 hcs.2 hd (kk H locs lr hP hS hl)
end GSX
theorem lk_out {x : Int32} {dflt : Int} : ∀ (ps : List (Int × Int)), (∀ q ∈ ps.map Prod.fst, ¬ x = Int32.ofInt q) → Op.lookupswitch.offset ps dflt x.toInt = dflt
  | [], _ => rfl
  | (a, o) :: r, h => by
    rw [Op.lookupswitch.offset_cons, if_neg (fun e => h a (by simp) (by rw [e]; exact (Int32.ofInt_toInt x).symm)), lk_out r (fun q hq => h q (by rw [List.map_cons]; exact List.mem_cons_of_mem _ hq))]
