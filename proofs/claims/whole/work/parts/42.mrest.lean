/-! the reference: reading her row -/
theorem mof_e {ν : gs_M} {k j : Nat} (hk : k < 4) (hj : j < 7) : D_X12_of (nI k) (nI j) ν = some (ν.1 89 (7 * k + j), ν) := by
  unfold D_X12_of
  rw [show (7 : Int32) = nI 7 from rfl, pk_mul, nI_add, inb_n (by omega) (by omega), ck_t, nI_clamp (by omega)]
  rfl
theorem mof_0 {ν : gs_M} {k : Nat} (hk : k < 4) : D_X12_of (nI k) 0 ν = some (ν.1 89 (7 * k), ν) := mof_e (j := 0) hk (by omega)
theorem mof_1 {ν : gs_M} {k : Nat} (hk : k < 4) : D_X12_of (nI k) 1 ν = some (ν.1 89 (7 * k + 1), ν) := mof_e (j := 1) hk (by omega)
theorem mof_2 {ν : gs_M} {k : Nat} (hk : k < 4) : D_X12_of (nI k) 2 ν = some (ν.1 89 (7 * k + 2), ν) := mof_e (j := 2) hk (by omega)
theorem mof_3 {ν : gs_M} {k : Nat} (hk : k < 4) : D_X12_of (nI k) 3 ν = some (ν.1 89 (7 * k + 3), ν) := mof_e (j := 3) hk (by omega)
theorem mof_4 {ν : gs_M} {k : Nat} (hk : k < 4) : D_X12_of (nI k) 4 ν = some (ν.1 89 (7 * k + 4), ν) := mof_e (j := 4) hk (by omega)
theorem mof_5 {ν : gs_M} {k : Nat} (hk : k < 4) : D_X12_of (nI k) 5 ν = some (ν.1 89 (7 * k + 5), ν) := mof_e (j := 5) hk (by omega)
theorem mof_6 {ν : gs_M} {k : Nat} (hk : k < 4) : D_X12_of (nI k) 6 ν = some (ν.1 89 (7 * k + 6), ν) := mof_e (j := 6) hk (by omega)
theorem mpl_e {ν : gs_M} {k i : Nat} : D_X12_placeIn (nI k) (nI i) ν = some (nI (28 + 12 * k + i), ν) := by
  unfold D_X12_placeIn
  rw [show (12 : Int32) = nI 12 from rfl, show (28 : Int32) = nI 28 from rfl, pk_mul, nI_add, nI_add]
theorem mun_e {ν : gs_M} {k i : Nat} (hk : k < 4) (hi : i < 12) : D_X12_units (nI k) (nI i) ν = some (ν.1 89 (28 + 12 * k + i), ν) := by
  unfold D_X12_units
  rw [mpl_e, bd_s, inb_n (by omega) (by omega), ck_t, nI_clamp (by omega)]
  rfl
theorem mpt_e {ν : gs_M} {o j : Nat} (ho : o < 7) (hj : j < 5) : D_X12_partOf (nI o) (nI j) ν = some (ν.1 83 (5 * o + j), ν) := by
  unfold D_X12_partOf
  rw [show (5 : Int32) = nI 5 from rfl, pk_mul, nI_add, inb_n (by omega) (by omega), ck_t, nI_clamp (by omega)]
  rfl
theorem mpt_0 {ν : gs_M} {o : Nat} (ho : o < 7) : D_X12_partOf (nI o) 0 ν = some (ν.1 83 (5 * o), ν) := mpt_e (j := 0) ho (by omega)
theorem mpt_1 {ν : gs_M} {o : Nat} (ho : o < 7) : D_X12_partOf (nI o) 1 ν = some (ν.1 83 (5 * o + 1), ν) := mpt_e (j := 1) ho (by omega)
theorem mpt_2 {ν : gs_M} {o : Nat} (ho : o < 7) : D_X12_partOf (nI o) 2 ν = some (ν.1 83 (5 * o + 2), ν) := mpt_e (j := 2) ho (by omega)
theorem mpt_3 {ν : gs_M} {o : Nat} (ho : o < 7) : D_X12_partOf (nI o) 3 ν = some (ν.1 83 (5 * o + 3), ν) := mpt_e (j := 3) ho (by omega)
theorem mpt_4 {ν : gs_M} {o : Nat} (ho : o < 7) : D_X12_partOf (nI o) 4 ν = some (ν.1 83 (5 * o + 4), ν) := mpt_e (j := 4) ho (by omega)
theorem mnw_e {ν : gs_M} {j : Nat} (hj : j < 81) : D_X12_now (nI j) ν = some (ν.1 89 j, ν) := by
  unfold D_X12_now
  rw [inb_n (by omega) (by omega), ck_t, nI_clamp (by omega)]
  rfl
theorem mnw_76 {ν : gs_M} : D_X12_now 76 ν = some (ν.1 89 76, ν) := mnw_e (j := 76) (by omega)
theorem mnw_77 {ν : gs_M} : D_X12_now 77 ν = some (ν.1 89 77, ν) := mnw_e (j := 77) (by omega)
theorem mnw_78 {ν : gs_M} : D_X12_now 78 ν = some (ν.1 89 78, ν) := mnw_e (j := 78) (by omega)
theorem mnw_79 {ν : gs_M} : D_X12_now 79 ν = some (ν.1 89 79, ν) := mnw_e (j := 79) (by omega)
theorem mnw_80 {ν : gs_M} : D_X12_now 80 ν = some (ν.1 89 80, ν) := mnw_e (j := 80) (by omega)
theorem mtb_e {ν : gs_M} {k : Nat} {x : Int32} (hk : k < 4) : D_X12_tallBy (nI k) x ν = some (x * (100 - ν.1 89 (7 * k + 5)) / 10, ν) := by
  unfold D_X12_tallBy
  rw [mof_5 hk, bd_s]
theorem mta_e {ν : gs_M} {k i : Nat} (hk : k < 4) (hi : i < 12) : D_X12_tall (nI k) (nI i) ν = some (ν.1 89 (28 + 12 * k + i) * (100 - ν.1 89 (7 * k + 5)) / 10, ν) := by
  unfold D_X12_tall
  rw [mun_e hk hi, bd_s, mtb_e hk, bd_s]
/-- what holds fast, of shaken, wet, line, rest, sacks -/
def faN (sn w ln rs sk : Int32) : Int32 := if sn * w ≤ ln then 10 * (rs + 3 * sk) else 0
theorem mso_e {ν : gs_M} {k o : Nat} (hk : k < 4) (ho : o < 7) (h : ν.1 89 (7 * k + 2) = nI o) : D_X12_isSoup (nI k) ν = some (if ν.1 89 (7 * k + 6) * ν.1 83 (5 * o + 2) ≤ ν.1 83 (5 * o + 3) then 0 else 1, ν) := by
  unfold D_X12_isSoup
  simp only [mof_6 hk, bd_s, mof_2 hk, h, mpt_2 ho, mpt_3 ho]
  by_cases hx : ν.1 89 (7 * k + 6) * ν.1 83 (5 * o + 2) ≤ ν.1 83 (5 * o + 3)
  · rw [if_pos hx, if_pos hx]
  · rw [if_neg hx, if_neg hx]
theorem mfa_e {ν : gs_M} {k o : Nat} (hk : k < 4) (ho : o < 7) (h : ν.1 89 (7 * k + 2) = nI o) : D_X12_fast (nI k) ν = some (faN (ν.1 89 (7 * k + 6)) (ν.1 83 (5 * o + 2)) (ν.1 83 (5 * o + 3)) (ν.1 83 (5 * o)) (ν.1 89 (7 * k + 4)), ν) := by
  unfold D_X12_fast faN
  rw [mso_e hk ho h, bd_s]
  by_cases hx : ν.1 89 (7 * k + 6) * ν.1 83 (5 * o + 2) ≤ ν.1 83 (5 * o + 3)
  · rw [if_pos hx, if_pos hx, if_pos rfl, mof_2 hk, bd_s, h, mpt_0 ho, bd_s, mof_4 hk, bd_s]
  · rw [if_neg hx, if_neg hx, if_neg (by decide)]
/-- the class's -/
theorem cfa_e {μ : gs_M} {a : Nat} : D_X1_holdsFast a μ = some (faN (μ.1 a 5) (μ.1 a 11) (μ.1 a 12) (μ.1 a 9) (μ.1 a 3), μ) := by
  unfold D_X1_holdsFast D_X1_isSoup faN
  simp only [gI_d]
  by_cases hx : μ.1 a 5 * μ.1 a 11 ≤ μ.1 a 12
  · rw [if_pos hx, if_pos hx, bd_s, if_pos rfl]
  · rw [if_neg hx, if_neg hx, bd_s, if_neg (by decide)]
/-- how many units a column holds at most -/
theorem i_most {z sh h : Int} (hs : 0 < sh) : z * sh / 10 ≤ 10 * h ↔ z ≤ (100 * h + 9) / sh := by
  rw [Int.le_ediv_iff_mul_le hs]
  generalize z * sh = q
  omega
def moN (h st : Int32) : Int32 := (100 * h + 9) / (100 - st)
theorem moN_i {h st : Int32} (h1 : 0 ≤ h.toInt) (h2 : h.toInt ≤ 40) (s1 : 0 ≤ st.toInt) (s2 : st.toInt ≤ 30) : (moN h st).toInt = (100 * h.toInt + 9) / (100 - st.toInt) ∧ 0 ≤ (moN h st).toInt ∧ (moN h st).toInt ≤ 57 := by
  have c1 : (100 : Int32).toInt = 100 := by decide
  have c2 : (9 : Int32).toInt = 9 := by decide
  have e1 : (100 * h).toInt = 100 * h.toInt := by rw [ti_mul (by rw [c1]; omega) (by rw [c1]; omega), c1]
  have e2 : (100 * h + 9).toInt = 100 * h.toInt + 9 := by rw [ti_add (by rw [e1, c2]; omega) (by rw [e1, c2]; omega), e1, c2]
  have e3 : (100 - st).toInt = 100 - st.toInt := by rw [ti_sub (by rw [c1]; omega) (by rw [c1]; omega), c1]
  have e4 : (moN h st).toInt = (100 * h.toInt + 9) / (100 - st.toInt) := by
    unfold moN
    rw [ti_div (by rw [e2]; omega) (by rw [e3]; omega), e2, e3]
  refine ⟨e4, ?_, ?_⟩
  · rw [e4]; exact Int.ediv_nonneg (by omega) (by omega)
  · rw [e4]
    have h5 : (100 * h.toInt + 9) / (100 - st.toInt) < 58 := by
      rw [Int.ediv_lt_iff_lt_mul (by omega)]
      omega
    omega
theorem cmo_e {μ : gs_M} {a : Nat} (s1 : 0 ≤ (μ.1 a 4).toInt) (s2 : (μ.1 a 4).toInt ≤ 30) : D_X1_unitsMost a μ = some (moN (μ.1 a 8) (μ.1 a 4), μ) := by
  have c1 : (100 : Int32).toInt = 100 := by decide
  have e3 : (100 - μ.1 a 4).toInt = 100 - (μ.1 a 4).toInt := by rw [ti_sub (by rw [c1]; omega) (by rw [c1]; omega), c1]
  unfold D_X1_unitsMost moN
  simp only [gI_d, lt1]
  have e5 : 100 - μ.1 a 4 ≠ 0 := fun h => by
    rw [h] at e3
    have e6 : (0 : Int32).toInt = 0 := by decide
    omega
  rw [if_neg (by rw [ti_le, e3]; show ¬ _ ≤ (0 : Int); omega), nzi_t e5, ck_t]
/-- a taller column than she is high -/
theorem tm_e {u x h st : Int32} (hu : 0 ≤ u.toInt ∧ u.toInt ≤ 60) (hx : 0 ≤ x.toInt ∧ x.toInt ≤ 60) (h1 : 0 ≤ h.toInt ∧ h.toInt ≤ 40) (s1 : 0 ≤ st.toInt ∧ st.toInt ≤ 30) : ((u + x) * (100 - st) / 10 ≤ 10 * h) ↔ u.toInt + x.toInt ≤ (moN h st).toInt := by
  have c1 : (100 : Int32).toInt = 100 := by decide
  have c2 : (10 : Int32).toInt = 10 := by decide
  have e1 : (u + x).toInt = u.toInt + x.toInt := ti_add (by omega) (by omega)
  have e3 : (100 - st).toInt = 100 - st.toInt := by rw [ti_sub (by rw [c1]; omega) (by rw [c1]; omega), c1]
  have b1 : 0 ≤ (u.toInt + x.toInt) * (100 - st.toInt) := Int.mul_nonneg (by omega) (by omega)
  have b2 : (u.toInt + x.toInt) * (100 - st.toInt) ≤ 120 * 100 := Int.mul_le_mul (by omega) (by omega) (by omega) (by omega)
  have e4 : ((u + x) * (100 - st)).toInt = (u.toInt + x.toInt) * (100 - st.toInt) := by
    rw [ti_mul (by rw [e1, e3]; omega) (by rw [e1, e3]; omega), e1, e3]
  have e5 : (10 * h).toInt = 10 * h.toInt := by rw [ti_mul (by rw [c2]; omega) (by rw [c2]; omega), c2]
  rw [ti_le, ti_div (by rw [e4]; omega) (by rw [c2]; omega), e4, c2, e5, i_most (by omega), (moN_i h1.1 h1.2 s1.1 s1.2).1]
