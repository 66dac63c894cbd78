/-! both compute alike, within a million -/
def BD (x : Int32) : Prop := -1000000 ≤ x.toInt ∧ x.toInt ≤ 1000000
def cl6 (z : Int) : Int := if z < 1000000 then (if z < -1000000 then -1000000 else z) else 1000000
theorem cl6_b (z : Int) : -1000000 ≤ cl6 z ∧ cl6 z ≤ 1000000 := by
  unfold cl6
  repeat' split
  all_goals omega
theorem wN_i (z : Int64) : (wN z).toInt = cl6 z.toInt := by
  have h1 : ((1000000 : Int64)).toInt = 1000000 := by decide
  have h2 : ((-1000000 : Int64)).toInt = -1000000 := by decide
  unfold wN
  by_cases q : z < 1000000
  · rw [if_pos q]
    rw [Int64.lt_iff_toInt_lt, h1] at q
    unfold cl6
    rw [if_pos q]
    by_cases q2 : z < -1000000
    · rw [if_pos q2]
      rw [Int64.lt_iff_toInt_lt, h2] at q2
      rw [if_pos q2]
      decide
    · rw [if_neg q2]
      rw [Int64.lt_iff_toInt_lt, h2] at q2
      rw [if_neg q2, Int64.toInt_toInt32]
      exact ti_bm (by omega) (by omega)
  · rw [if_neg q]
    rw [Int64.lt_iff_toInt_lt, h1] at q
    unfold cl6
    rw [if_neg q, if_neg (by decide)]
    decide
theorem wN_b (z : Int64) : BD (wN z) := by
  unfold BD
  rw [wN_i]
  exact cl6_b _
theorem heN_i {x : Int32} : (heN x 1000000).toInt = cl6 x.toInt := by
  have h1 : ((1000000 : Int32)).toInt = 1000000 := by decide
  have h2 : (-(1000000 : Int32)).toInt = -1000000 := by decide
  unfold heN cl6
  by_cases q : x ≤ 1000000
  · rw [if_pos q]
    rw [ti_le, h1] at q
    by_cases q2 : -(1000000 : Int32) ≤ x
    · rw [if_pos q2]
      rw [ti_le, h2] at q2
      repeat' split
      all_goals omega
    · rw [if_neg q2, h2]
      rw [ti_le, h2] at q2
      rw [if_pos (by omega), if_pos (by omega)]
  · rw [if_neg q, h1]
    rw [ti_le, h1] at q
    rw [if_neg (by omega)]
theorem bm64 {z : Int} (h1 : -9000000000000000000 ≤ z) (h2 : z ≤ 9000000000000000000) : z.bmod (2 ^ 64) = z := by
  apply Int.bmod_eq_of_le <;> omega
theorem ar_add {l r : Int32} (hl : BD l) (hr : BD r) : jn 43 l r = wN (Int32.toInt64 l + Int32.toInt64 r) := by
  obtain ⟨l1, l2⟩ := hl
  obtain ⟨r1, r2⟩ := hr
  show heN (l + r) 1000000 = _
  apply ti_ext
  rw [heN_i, wN_i, ti_add (by omega) (by omega), Int64.toInt_add, Int32.toInt_toInt64, Int32.toInt_toInt64, bm64 (by omega) (by omega)]
theorem ar_sub {l r : Int32} (hl : BD l) (hr : BD r) : jn 45 l r = wN (Int32.toInt64 l - Int32.toInt64 r) := by
  obtain ⟨l1, l2⟩ := hl
  obtain ⟨r1, r2⟩ := hr
  show heN (l - r) 1000000 = _
  apply ti_ext
  rw [heN_i, wN_i, ti_sub (by omega) (by omega), Int64.toInt_sub, Int32.toInt_toInt64, Int32.toInt_toInt64, bm64 (by omega) (by omega)]
theorem ar_mul (l r : Int32) : jn 42 l r = wN (Int32.toInt64 l * Int32.toInt64 r) := by
  show (if (lg_cmp ((Int32.toInt64 l) * (Int32.toInt64 r)) (1000000 : Int64)) ≤ 0 then (if 0 ≤ (lg_cmp ((Int32.toInt64 l) * (Int32.toInt64 r)) (-1000000 : Int64)) then Int64.toInt32 ((Int32.toInt64 l) * (Int32.toInt64 r)) else -1000000) else 1000000) = _
  generalize Int32.toInt64 l * Int32.toInt64 r = z
  have h1 : ((1000000 : Int64)).toInt = 1000000 := by decide
  have h2 : ((-1000000 : Int64)).toInt = -1000000 := by decide
  apply ti_ext
  rw [wN_i]
  unfold cl6
  by_cases q : lg_cmp z 1000000 ≤ 0
  · rw [if_pos q]
    rw [lg_cmp_le, Int64.le_iff_toInt_le, h1] at q
    by_cases q2 : 0 ≤ lg_cmp z (-1000000)
    · rw [if_pos q2]
      rw [lg_cmp_ge, Int64.le_iff_toInt_le, h2] at q2
      rw [Int64.toInt_toInt32, ti_bm (by omega) (by omega)]
      repeat' split
      all_goals omega
    · rw [if_neg q2]
      rw [lg_cmp_ge, Int64.le_iff_toInt_le, h2] at q2
      rw [if_pos (by omega), if_pos (by omega)]
      decide
  · rw [if_neg q]
    rw [lg_cmp_le, Int64.le_iff_toInt_le, h1] at q
    rw [if_neg (by omega)]
    decide
theorem ar_div {l r : Int32} (hl : BD l) (hr : BD r) (h0 : r ≠ 0) : jn 47 l r = wN (Int32.toInt64 l / Int32.toInt64 r) := by
  obtain ⟨l1, l2⟩ := hl
  obtain ⟨r1, r2⟩ := hr
  show (if r = 0 then 0 else l / r) = _
  rw [if_neg h0]
  have hr0 : r.toInt ≠ 0 := fun e => h0 (ti_ext (by rw [e]; decide))
  have hab : (l.toInt.tdiv r.toInt).natAbs ≤ l.toInt.natAbs := by
    rw [Int.natAbs_tdiv]
    exact Nat.div_le_self _ _
  have e1 : -1000000 ≤ l.toInt.tdiv r.toInt ∧ l.toInt.tdiv r.toInt ≤ 1000000 := by omega
  apply ti_ext
  rw [wN_i, Int64.toInt_div, Int32.toInt_toInt64, Int32.toInt_toInt64, Int32.toInt_div, ti_bm (by omega) (by omega), bm64 (by omega) (by omega)]
  unfold cl6
  repeat' split
  all_goals omega
theorem ar_d0 (l : Int32) : jn 47 l 0 = wN 0 := by
  show (if (0 : Int32) = 0 then 0 else l / 0) = _
  rw [if_pos rfl]
  decide
theorem z64 {r : Int32} : lg_cmp (Int32.toInt64 r) 0 = 0 ↔ r = 0 := by
  rw [lg_cmp_eq, ← Int64.toInt_inj, Int32.toInt_toInt64, ti_eq]
  exact Iff.rfl
theorem nz64 {r : Int32} (h : r ≠ 0) : nzl (Int32.toInt64 r) = true := nzl_t (fun e => h (ti_ext (by
  have := congrArg Int64.toInt e
  rw [Int32.toInt_toInt64] at this
  rw [this]
  decide)))
