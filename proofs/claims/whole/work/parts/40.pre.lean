/-! part II: plain words on the functions -/
theorem bd_s {ρ α : Type} (r : ρ) (μ : gs_M) (f : ρ → gs_M → Option α) : bd (some (r, μ)) f = f r μ := rfl
theorem bd0_s {α : Type} (μ : gs_M) (f : gs_M → Option α) : bd0 (some μ) f = f μ := rfl
theorem ck_t {α : Type} (x : Option α) : ck true x = x := rfl
theorem gI_d (μ : gs_M) (a j : Nat) : gI μ a j = μ.1 a j := by
  have h : ∀ x : Int32, x = gI μ a j → x = μ.1 a j := fun x h => h.trans rfl
  exact h _ rfl
theorem gL_d (μ : gs_M) (a j : Nat) : gL μ a j = μ.2 a j := by
  have h : ∀ x : Int64, x = gL μ a j → x = μ.2 a j := fun x h => h.trans rfl
  exact h _ rfl
theorem sI_s (μ : gs_M) (a j : Nat) (v : Int32) : (sI μ a j v).1 a = upd (μ.1 a) j v := if_pos rfl
theorem sI_n (μ : gs_M) {a b : Nat} (j : Nat) (v : Int32) (h : b ≠ a) : (sI μ a j v).1 b = μ.1 b := if_neg h
theorem sI_L (μ : gs_M) (a j : Nat) (v : Int32) : (sI μ a j v).2 = μ.2 := rfl
theorem sL_s (μ : gs_M) (a j : Nat) (v : Int64) : (sL μ a j v).2 a = vp_updL (μ.2 a) j v := if_pos rfl
theorem sL_n (μ : gs_M) {a b : Nat} (j : Nat) (v : Int64) (h : b ≠ a) : (sL μ a j v).2 b = μ.2 b := if_neg h
theorem sL_I (μ : gs_M) (a j : Nat) (v : Int64) : (sL μ a j v).1 = μ.1 := rfl
theorem sI_g (μ : gs_M) (a j b i : Nat) (v : Int32) : (sI μ a j v).1 b i = if b = a ∧ i = j then v else μ.1 b i := by
  unfold sI upd
  by_cases h : b = a
  · subst h
    by_cases h2 : i = j <;> simp [h2]
  · simp [h]
theorem sL_g (μ : gs_M) (a j b i : Nat) (v : Int64) : (sL μ a j v).2 b i = if b = a ∧ i = j then v else μ.2 b i := by
  unfold sL vp_updL
  by_cases h : b = a
  · subst h
    by_cases h2 : i = j <;> simp [h2]
  · simp [h]
theorem inb_n {i n : Nat} (h : i < n) (hn : n < 2 ^ 31) : inb (nI i) n = true := by
  unfold inb
  rw [Bool.and_eq_true, decide_eq_true_eq, decide_eq_true_eq]
  exact ⟨nI_pos' (by omega), by rw [nI_clamp (by omega)]; exact h⟩
theorem nzi_t {x : Int32} (h : x ≠ 0) : nzi x = true := decide_eq_true h
theorem nzl_t {x : Int64} (h : x ≠ 0) : nzl x = true := decide_eq_true h
theorem isk_t {a k : Nat} (h : kd a = k) : isk a k = true := decide_eq_true h
theorem zb_0 : zb 0 = true := by decide
theorem zb_1 : zb 1 = true := by decide
/-! ints as whole numbers -/
theorem ti_lo (a : Int32) : -2147483648 ≤ a.toInt := Int32.le_toInt a
theorem ti_hi (a : Int32) : a.toInt ≤ 2147483647 := by have h := Int32.toInt_lt a; omega
theorem ti_bm {z : Int} (h1 : -2147483648 ≤ z) (h2 : z ≤ 2147483647) : z.bmod (2 ^ 32) = z := by
  apply Int.bmod_eq_of_le <;> omega
theorem ti_add {a b : Int32} (h1 : -2147483648 ≤ a.toInt + b.toInt) (h2 : a.toInt + b.toInt ≤ 2147483647) : (a + b).toInt = a.toInt + b.toInt := by
  rw [Int32.toInt_add]; exact ti_bm h1 h2
theorem ti_sub {a b : Int32} (h1 : -2147483648 ≤ a.toInt - b.toInt) (h2 : a.toInt - b.toInt ≤ 2147483647) : (a - b).toInt = a.toInt - b.toInt := by
  rw [Int32.toInt_sub]; exact ti_bm h1 h2
theorem ti_mul {a b : Int32} (h1 : -2147483648 ≤ a.toInt * b.toInt) (h2 : a.toInt * b.toInt ≤ 2147483647) : (a * b).toInt = a.toInt * b.toInt := by
  rw [Int32.toInt_mul]; exact ti_bm h1 h2
theorem ti_neg {a : Int32} (h1 : a.toInt ≠ -2147483648) : (-a).toInt = - a.toInt := by
  rw [Int32.toInt_neg]; exact ti_bm (by have := ti_hi a; omega) (by have := ti_lo a; omega)
theorem ti_div {a b : Int32} (h1 : 0 ≤ a.toInt) (h2 : 0 < b.toInt) : (a / b).toInt = a.toInt / b.toInt := by
  rw [Int32.toInt_div, Int.tdiv_eq_ediv_of_nonneg h1]
  have h3 : a.toInt / b.toInt ≤ a.toInt := Int.ediv_le_self _ h1
  have h4 : 0 ≤ a.toInt / b.toInt := Int.ediv_nonneg h1 (by omega)
  exact ti_bm (by omega) (by have := ti_hi a; omega)
theorem ti_lt (a b : Int32) : a < b ↔ a.toInt < b.toInt := Int32.lt_iff_toInt_lt
theorem ti_le (a b : Int32) : a ≤ b ↔ a.toInt ≤ b.toInt := Int32.le_iff_toInt_le
theorem ti_eq (a b : Int32) : a = b ↔ a.toInt = b.toInt := Int32.toInt_inj.symm
theorem ti_ext {a b : Int32} (h : a.toInt = b.toInt) : a = b := Int32.toInt_inj.mp h
/-- a small natural number that an int is -/
theorem ti_nI {x : Int32} {n : Nat} (h : x.toInt = n) : x = nI n := by
  have h2 := ti_hi x
  apply ti_ext
  rw [nI_toInt (by omega), h]
theorem ti_nat {x : Int32} {m : Nat} (h : 0 ≤ x.toInt) (h2 : x.toInt ≤ m) : ∃ n : Nat, n ≤ m ∧ x = nI n := ⟨x.toInt.toNat, by omega, ti_nI (by omega)⟩
/-! sums of a row -/
def su (f : Nat → Int32) : Nat → Int
  | 0 => 0
  | n + 1 => su f n + (f n).toInt
theorem su_out {f : Nat → Int32} {k : Nat} {x : Int32} : ∀ {n : Nat}, n ≤ k → su (upd f k x) n = su f n
  | 0, _ => rfl
  | n + 1, h => by
    show su (upd f k x) n + (upd f k x n).toInt = su f n + (f n).toInt
    rw [su_out (by omega), pk_un (by omega)]
theorem su_upd {f : Nat → Int32} {k : Nat} {x : Int32} : ∀ {n : Nat}, k < n → su (upd f k x) n = su f n - (f k).toInt + x.toInt
  | 0, h => absurd h (by omega)
  | n + 1, h => by
    show su (upd f k x) n + (upd f k x n).toInt = su f n + (f n).toInt - (f k).toInt + x.toInt
    by_cases hk : k = n
    · subst hk
      rw [su_out (Nat.le_refl _), pk_us]
      omega
    · rw [su_upd (show k < n by omega), pk_un (by omega)]
      omega
theorem su_cong {f g : Nat → Int32} : ∀ {n : Nat}, (∀ i, i < n → f i = g i) → su f n = su g n
  | 0, _ => rfl
  | n + 1, h => by
    show su f n + (f n).toInt = su g n + (g n).toInt
    rw [su_cong (fun i hi => h i (by omega)), h n (by omega)]
