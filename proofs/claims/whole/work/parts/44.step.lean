/-! one place of a sweep, both sides -/
theorem mv_e {ν : gs_M} {k f t : Nat} {w y : Int32} (hk : k < 4) (hf : f < 12) (ht : t < 12) (hne : t ≠ f) (hm : D_X12_may (nI k) (nI f) (nI t) w ν = some (y, ν)) : ∃ ν' : gs_M, D_X12_moves (nI k) (nI f) (nI t) w ν = some (y, ν') ∧ ν'.1 89 = upd (upd (ν.1 89) (28 + 12 * k + f) (ν.1 89 (28 + 12 * k + f) - y)) (28 + 12 * k + t) (ν.1 89 (28 + 12 * k + t) + y) ∧ (∀ b, b ≠ 78 → b ≠ 89 → ν'.1 b = ν.1 b) ∧ ν'.2 = ν.2 ∧ (f < t → ν'.1 78 = upd (ν.1 78) 37 (ν.1 78 37 + y)) ∧ (t < f → ν'.1 78 = upd (ν.1 78) 38 (ν.1 78 38 + y)) := by
  have e1 : (78 : Nat) ≠ 89 := by omega
  have e2 : (89 : Nat) ≠ 78 := by omega
  have e3 : 28 + 12 * k + t ≠ 28 + 12 * k + f := by omega
  unfold D_X12_moves
  simp only [hm, bd_s, mpl_e, inb_n (show 28 + 12 * k + f < 81 by omega) (by omega), inb_n (show 28 + 12 * k + t < 81 by omega) (by omega), ck_t, lt1, nI_clamp (show 28 + 12 * k + f < 2 ^ 31 by omega), nI_clamp (show 28 + 12 * k + t < 2 ^ 31 by omega), gI_d, sI_s, sI_n _ _ _ e1, pk_un e3]
  rcases Nat.lt_or_gt_of_ne hne with h | h
  · rw [if_pos (nI_le (by omega) (by omega))]
    refine ⟨_, rfl, ?_, fun b h1 h2 => ?_, rfl, fun q => absurd q (by omega), fun _ => ?_⟩
    · simp only [sI_s, sI_n _ _ _ e2]
    · simp only [sI_n _ _ _ h1, sI_n _ _ _ h2]
    · simp only [sI_s, sI_n _ _ _ e1]
  · rw [if_neg (nI_ge h (by omega))]
    refine ⟨_, rfl, ?_, fun b h1 h2 => ?_, rfl, fun _ => ?_, fun q => absurd q (by omega)⟩
    · simp only [sI_s, sI_n _ _ _ e2]
    · simp only [sI_n _ _ _ h1, sI_n _ _ _ h2]
    · simp only [sI_s, sI_n _ _ _ e1]
def HF (f w p : Nat → Int32) (k c o : Nat) : Prop := 2 ≤ c ∧ c ≤ 12 ∧ o < 6 ∧ f 1 = nI c ∧ w (7 * k) = nI c ∧ w (7 * k + 2) = nI o ∧ f 8 = w (7 * k + 1) ∧ f 2 = w (7 * k + 3) ∧ f 3 = w (7 * k + 4) ∧ f 4 = w (7 * k + 5) ∧ f 5 = w (7 * k + 6) ∧
  (f 9 = p (5 * o) ∧ f 10 = p (5 * o + 1) ∧ f 11 = p (5 * o + 2) ∧ f 12 = p (5 * o + 3) ∧ f 13 = p (5 * o + 4)) ∧ (0 ≤ (f 8).toInt ∧ (f 8).toInt ≤ 40) ∧ (0 ≤ (f 2).toInt ∧ (f 2).toInt ≤ 40) ∧ (0 ≤ (f 3).toInt ∧ (f 3).toInt ≤ 3) ∧ (0 ≤ (f 4).toInt ∧ (f 4).toInt ≤ 30) ∧ (0 ≤ (f 9).toInt ∧ (f 9).toInt ≤ 20) ∧ (0 ≤ (f 10).toInt ∧ (f 10).toInt ≤ 30) ∧ (0 ≤ (f 13).toInt ∧ (f 13).toInt ≤ 9)
def HU (u w : Nat → Int32) (k : Nat) : Prop := ∀ i, i < 12 → u i = w (28 + 12 * k + i) ∧ 0 ≤ (u i).toInt ∧ (u i).toInt ≤ 60
def HC (μ ν : gs_M) (a k c o : Nat) : Prop := HF (μ.1 a) (ν.1 89) (ν.1 83) k c o ∧ HU (μ.1 (a + 1)) (ν.1 89) k
/-- what a rest leaves as it was: class, reference -/
def FC (μ0 μ : gs_M) (a : Nat) : Prop := (∀ b, b ≠ a → b ≠ a + 1 → μ.1 b = μ0.1 b) ∧ (∀ j, j ≠ 6 → j ≠ 7 → μ.1 a j = μ0.1 a j) ∧ μ.2 = μ0.2
def FM (ν0 ν : gs_M) (k : Nat) : Prop := (∀ b, b ≠ 78 → b ≠ 89 → ν.1 b = ν0.1 b) ∧ (∀ j, j ≠ 37 → j ≠ 38 → ν.1 78 j = ν0.1 78 j) ∧ (∀ j, j < 28 + 12 * k ∨ 40 + 12 * k ≤ j → ν.1 89 j = ν0.1 89 j) ∧ ν.2 = ν0.2
/-- what went, and the sum -/
def GC (T : Nat) (μ0 ν0 μ ν : gs_M) (a c : Nat) : Prop := ν.1 78 37 - ν0.1 78 37 = μ.1 a 6 - μ0.1 a 6 ∧ ν.1 78 38 - ν0.1 78 38 = μ.1 a 7 - μ0.1 a 7 ∧ su (μ.1 (a + 1)) c = su (μ0.1 (a + 1)) c ∧ ∃ t1 t2 : Nat, t1 ≤ T ∧ t2 ≤ T ∧ μ.1 a 6 = μ0.1 a 6 + nI t1 ∧ μ.1 a 7 = μ0.1 a 7 + nI t2
theorem FC.refl {μ : gs_M} {a : Nat} : FC μ μ a := ⟨fun _ _ _ => rfl, fun _ _ _ => rfl, rfl⟩
theorem FM.refl {μ : gs_M} {a : Nat} : FM μ μ a := ⟨fun _ _ _ => rfl, fun _ _ _ => rfl, fun _ _ => rfl, rfl⟩
theorem GC.refl {T : Nat} {μ ν : gs_M} {a c : Nat} : GC T μ ν μ ν a c := ⟨by rw [Int32.sub_self, Int32.sub_self], by rw [Int32.sub_self, Int32.sub_self], rfl, 0, 0, by omega, by omega, by rw [nI_0, Int32.add_zero], by rw [nI_0, Int32.add_zero]⟩
theorem GC.mono {T T' : Nat} {μ0 ν0 μ ν : gs_M} {a c : Nat} (h : GC T μ0 ν0 μ ν a c) (hT : T ≤ T') : GC T' μ0 ν0 μ ν a c := by
  obtain ⟨h1, h2, h3, t1, t2, h4, h5, h6⟩ := h
  exact ⟨h1, h2, h3, t1, t2, by omega, by omega, h6⟩
theorem FC.trans {μ0 μ1 μ2 : gs_M} {a : Nat} (h : FC μ0 μ1 a) (g : FC μ1 μ2 a) : FC μ0 μ2 a := ⟨fun b h1 h2 => (g.1 b h1 h2).trans (h.1 b h1 h2), fun b h1 h2 => (g.2.1 b h1 h2).trans (h.2.1 b h1 h2), g.2.2.trans h.2.2⟩
theorem FM.trans {μ0 μ1 μ2 : gs_M} {a : Nat} (h : FM μ0 μ1 a) (g : FM μ1 μ2 a) : FM μ0 μ2 a := ⟨fun b h1 h2 => (g.1 b h1 h2).trans (h.1 b h1 h2), fun b h1 h2 => (g.2.1 b h1 h2).trans (h.2.1 b h1 h2), fun j hj => (g.2.2.1 j hj).trans (h.2.2.1 j hj), g.2.2.2.trans h.2.2.2⟩
theorem GC.trans {T1 T2 : Nat} {μ0 ν0 μ1 ν1 μ2 ν2 : gs_M} {a c : Nat} (h : GC T1 μ0 ν0 μ1 ν1 a c) (g : GC T2 μ1 ν1 μ2 ν2 a c) : GC (T1 + T2) μ0 ν0 μ2 ν2 a c := by
  obtain ⟨h1, h2, h3, a1, a2, h4, h5, h6, h7⟩ := h
  obtain ⟨g1, g2, g3, b1, b2, g4, g5, g6, g7⟩ := g
  refine ⟨?_, ?_, g3.trans h3, a1 + b1, a2 + b2, by omega, by omega, ?_, ?_⟩
  · clear h6 h7 g6 g7; grind
  · clear h6 h7 g6 g7; grind
  · rw [g6, h6, ← nI_add, Int32.add_assoc]
  · rw [g7, h7, ← nI_add, Int32.add_assoc]
theorem sw_sl {c : Nat} (f : Nat → Int32) {i j : Nat} {n : Int32} (hi : i < c) (hj : j < c) (hij : j ≠ i) (h1 : (f i - n).toInt = (f i).toInt - n.toInt) (h2 : (f j + n).toInt = (f j).toInt + n.toInt) : su (upd (upd f i (f i - n)) j (f j + n)) c = su f c := by
  rw [su_upd hj, su_upd hi, pk_un hij, h1, h2]
  omega
theorem faN_b {sn w ln rs sk : Int32} (h1 : 0 ≤ rs.toInt ∧ rs.toInt ≤ 20) (h2 : 0 ≤ sk.toInt ∧ sk.toInt ≤ 3) : 0 ≤ (faN sn w ln rs sk).toInt ∧ (faN sn w ln rs sk).toInt ≤ 290 := by
  have c1 : (10 : Int32).toInt = 10 := by decide
  have c2 : (3 : Int32).toInt = 3 := by decide
  have e1 : (3 * sk).toInt = 3 * sk.toInt := by rw [ti_mul (by rw [c2]; omega) (by rw [c2]; omega), c2]
  have e2 : (rs + 3 * sk).toInt = rs.toInt + 3 * sk.toInt := by rw [ti_add (by rw [e1]; omega) (by rw [e1]; omega), e1]
  have e3 : (10 * (rs + 3 * sk)).toInt = 10 * (rs.toInt + 3 * sk.toInt) := by rw [ti_mul (by rw [c1, e2]; omega) (by rw [c1, e2]; omega), c1, e2]
  unfold faN
  by_cases h : sn * w ≤ ln
  · rw [if_pos h, e3]; omega
  · rw [if_neg h]; decide
theorem tl_b {u st : Int32} (hu : 0 ≤ u.toInt ∧ u.toInt ≤ 60) (s1 : 0 ≤ st.toInt ∧ st.toInt ≤ 30) : 0 ≤ (u * (100 - st) / 10).toInt ∧ (u * (100 - st) / 10).toInt ≤ 600 := by
  have c1 : (100 : Int32).toInt = 100 := by decide
  have c2 : (10 : Int32).toInt = 10 := by decide
  have e3 : (100 - st).toInt = 100 - st.toInt := by rw [ti_sub (by rw [c1]; omega) (by rw [c1]; omega), c1]
  have b1 : 0 ≤ u.toInt * (100 - st.toInt) := Int.mul_nonneg (by omega) (by omega)
  have b2 : u.toInt * (100 - st.toInt) ≤ 60 * 100 := Int.mul_le_mul (by omega) (by omega) (by omega) (by omega)
  have e4 : (u * (100 - st)).toInt = u.toInt * (100 - st.toInt) := by
    rw [ti_mul (by rw [e3]; omega) (by rw [e3]; omega), e3]
  rw [ti_div (by rw [e4]; omega) (by rw [c2]; omega), e4, c2]
  omega
theorem swD_b {u0 u1 st sl : Int32} (hu0 : 0 ≤ u0.toInt ∧ u0.toInt ≤ 60) (hu1 : 0 ≤ u1.toInt ∧ u1.toInt ≤ 60) (s1 : 0 ≤ st.toInt ∧ st.toInt ≤ 30) (hl : -600 ≤ sl.toInt ∧ sl.toInt ≤ 600) : -1200 ≤ (swD u0 u1 (100 - st) sl).toInt ∧ (swD u0 u1 (100 - st) sl).toInt ≤ 1200 := by
  have h0 := tl_b hu0 s1
  have h1 := tl_b hu1 s1
  unfold swD
  have e1 : (u0 * (100 - st) / 10 - u1 * (100 - st) / 10).toInt = (u0 * (100 - st) / 10).toInt - (u1 * (100 - st) / 10).toInt := ti_sub (by omega) (by omega)
  rw [ti_add (by rw [e1]; omega) (by rw [e1]; omega), e1]
  omega
/-- the amounts of both sides -/
theorem swV_b {d fa : Int32} (hd : -1200 ≤ d.toInt ∧ d.toInt ≤ 1200) (hf : 0 ≤ fa.toInt ∧ fa.toInt ≤ 290) : (fa < d → swV d fa = (d - fa) / 20 ∧ 0 ≤ ((d - fa) / 20).toInt ∧ ¬ d ≤ 0) ∧ (d < -fa → swV d fa = (-d - fa) / 20 ∧ 0 ≤ ((-d - fa) / 20).toInt ∧ d ≤ 0) ∧ (¬ fa < d → ¬ d < -fa → ¬ 0 < swV d fa) := by
  have h0 : (0 : Int32).toInt = 0 := by decide
  have c2 : (20 : Int32).toInt = 20 := by decide
  have e1 : (-fa).toInt = -fa.toInt := ti_neg (by omega)
  have e2 : (-d).toInt = -d.toInt := ti_neg (by omega)
  have e3 : (d - fa).toInt = d.toInt - fa.toInt := ti_sub (by omega) (by omega)
  have e4 : (-d - fa).toInt = -d.toInt - fa.toInt := by rw [ti_sub (by omega) (by omega), e2]
  refine ⟨fun h => ?_, fun h => ?_, fun h1 h2 => ?_⟩
  · rw [ti_lt] at h
    unfold swV
    rw [if_pos (by rw [ti_le]; omega)]
    refine ⟨rfl, ?_, by rw [ti_le]; omega⟩
    rw [ti_div (by omega) (by omega), c2, e3]
    omega
  · rw [ti_lt, e1] at h
    unfold swV
    rw [if_neg (by rw [ti_le]; omega)]
    refine ⟨rfl, ?_, by rw [ti_le]; omega⟩
    rw [ti_div (by omega) (by omega), c2, e4]
    omega
  · rw [ti_lt] at h1
    rw [ti_lt, e1] at h2
    unfold swV
    by_cases h : 0 ≤ d
    · rw [if_pos h, ti_lt, h0, Int32.toInt_div, e3, c2]
      have h5 : (d.toInt - fa.toInt).tdiv 20 ≤ 0 ∧ -100 ≤ (d.toInt - fa.toInt).tdiv 20 := by
        have hsg : Int.sign 20 = 1 := rfl
        rw [Int.tdiv_eq_ediv]
        split <;> omega
      rw [ti_bm (by omega) (by omega)]
      omega
    · rw [ti_le] at h
      rw [if_neg (by rw [ti_le]; omega), ti_lt, h0, Int32.toInt_div, e4, c2]
      have h5 : (-d.toInt - fa.toInt).tdiv 20 ≤ 0 ∧ -100 ≤ (-d.toInt - fa.toInt).tdiv 20 := by
        have hsg : Int.sign 20 = 1 := rfl
        rw [Int.tdiv_eq_ediv]
        split <;> omega
      rw [ti_bm (by omega) (by omega)]
      omega
/-- the reference's end of a step -/
theorem mr_141 {q21 : Int32 → Int32 → Int32 → Int32 → gs_M → Option (gs_M)} {q39 : Int32 → Int32 → Int32 → Int32 → Int32 → gs_M → Option (gs_M)} {x1 x3 x4 x5 y : Int32} {i : Nat} {ν : gs_M} (h : x4 = 0 ∨ x4 = 1) (hy : 0 ≤ y.toInt) : B_X12_rests_141 q21 q39 x1 x3 x4 x5 (nI i) y ν = q39 x1 x3 (if 0 < y then 1 else x4) x5 (nI (i + 1)) ν := by
  unfold B_X12_rests_141
  rw [nI_1]
  have h0 : (0 : Int32).toInt = 0 := by decide
  by_cases h1 : 0 < y
  · have h2 : ¬ y ≤ 0 := by rw [ti_le]; rw [ti_lt] at h1; omega
    rw [if_pos h1]
    rcases h with rfl | rfl
    · rw [if_pos rfl, if_neg h2]
    · rw [if_neg (by decide)]
  · have h2 : y ≤ 0 := by rw [ti_le]; rw [ti_lt] at h1; omega
    rw [if_neg h1]
    rcases h with rfl | rfl
    · rw [if_pos rfl, if_pos h2]
    · rw [if_neg (by decide)]
