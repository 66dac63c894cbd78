/-! how much may go: the reference's loop is the class's least of three -/
theorem mayL {ν : gs_M} {k t : Nat} (hk : k < 4) (ht : t < 12) (hu : 0 ≤ (ν.1 89 (28 + 12 * k + t)).toInt ∧ (ν.1 89 (28 + 12 * k + t)).toInt ≤ 60) (h1 : 0 ≤ (ν.1 89 (7 * k + 1)).toInt ∧ (ν.1 89 (7 * k + 1)).toInt ≤ 40) (s1 : 0 ≤ (ν.1 89 (7 * k + 5)).toInt ∧ (ν.1 89 (7 * k + 5)).toInt ≤ 30) :
    ∀ (n fuel : Nat) (x : Int32), x.toInt = n → n < fuel → n ≤ 60 → ∃ y : Int32, L_X12_may_87 fuel (nI k) (nI t) x ν = some (y, ν) ∧ y.toInt = min (n : Int) (max 0 ((moN (ν.1 89 (7 * k + 1)) (ν.1 89 (7 * k + 5))).toInt - (ν.1 89 (28 + 12 * k + t)).toInt)) := by
  intro n
  induction n with
  | zero =>
    intro fuel x hx hf _
    obtain ⟨fuel, rfl⟩ : ∃ m, fuel = m + 1 := ⟨fuel - 1, by omega⟩
    refine ⟨x, ?_, by rw [hx]; omega⟩
    show Bo_X12_may_87 _ _ _ _ _ = _
    unfold Bo_X12_may_87
    rw [if_pos (by rw [ti_le, hx]; decide)]
  | succ n ih =>
    intro fuel x hx hf hn
    obtain ⟨fuel, rfl⟩ : ∃ m, fuel = m + 1 := ⟨fuel - 1, by omega⟩
    have hp : ¬ x ≤ 0 := by rw [ti_le, hx]; show ¬ _ ≤ (0 : Int); omega
    have hu2 : (moN (ν.1 89 (7 * k + 1)) (ν.1 89 (7 * k + 5))).toInt ≤ 57 := (moN_i h1.1 h1.2 s1.1 s1.2).2.2
    by_cases hc : (ν.1 89 (28 + 12 * k + t)).toInt + x.toInt ≤ (moN (ν.1 89 (7 * k + 1)) (ν.1 89 (7 * k + 5))).toInt
    · refine ⟨x, ?_, by rw [hx] at hc ⊢; omega⟩
      show Bo_X12_may_87 _ _ _ _ _ = _
      unfold Bo_X12_may_87
      simp only [if_neg hp, mun_e hk ht, bd_s, mtb_e hk, mof_1 hk, (tm_e hu ⟨by omega, by omega⟩ h1 s1).mpr hc, if_true]
    · have hm : (x + -1).toInt = n := by
        have e1 : (-1 : Int32).toInt = -1 := by decide
        rw [ti_add (by rw [e1]; omega) (by rw [e1]; omega), e1, hx]
        omega
      obtain ⟨y, h5, h6⟩ := ih fuel (x + -1) hm (by omega) (by omega)
      refine ⟨y, ?_, by rw [h6]; rw [hx] at hc; omega⟩
      show Bo_X12_may_87 _ _ _ _ _ = _
      unfold Bo_X12_may_87
      simp only [if_neg hp, mun_e hk ht, bd_s, mtb_e hk, mof_1 hk, if_neg (fun h => hc ((tm_e hu ⟨by omega, by omega⟩ h1 s1).mp h))]
      exact h5
/-- the column left of the board, as the class has it -/
def bdN (c : Nat) (b : Int32) : Int32 := if b ≤ 0 then -1 else if nI c - nI c / 2 * 2 = 0 then nI c / 2 - 1 else -1
theorem bdN_e {c i : Nat} {b : Int32} (hc : c ≤ 12) (hc2 : 2 ≤ c) (hi : i < 12) : nI i = bdN c b ↔ (¬ b ≤ 0) ∧ nI i = nI c / 2 - 1 ∧ nI c - nI c / 2 * 2 = 0 := by
  have hm : ∀ i, i < 12 → nI i ≠ -1 := by decide
  unfold bdN
  by_cases h1 : b ≤ 0
  · simp [h1, hm i hi]
  · by_cases h2 : nI c - nI c / 2 * 2 = 0
    · simp [h1, h2]
    · simp [h1, h2, hm i hi]
theorem may_B : ∃ fu : Nat, 61 < fu ∧ (∀ (x1 x2 x3 x5 : Int32) (ν : gs_M), B_X12_may_47 x1 x2 x3 x5 0 ν = L_X12_may_87 fu x1 x3 x5 ν ∧ B_X12_may_46 x1 x2 x3 x5 ν = L_X12_may_87 fu x1 x3 x5 ν) ∧ (∀ (x1 x2 x3 x5 : Int32) (ν : gs_M), B_X12_may_47 x1 x2 x3 x5 1 ν = (bd (D_X12_of x1 (3 : Int32) ν) (fun v4 u3 => if v4 ≤ 0 then (L_X12_may_87 fu x1 x3 x5 u3) else (bd (D_X12_units x1 x2 u3) (fun v8 u7 => bd (D_X12_of x1 (3 : Int32) u7) (fun v11 u10 => lt1 (if (0 : Int32) < (v8 - v11) then (v8 - v11) else (0 : Int32)) (fun v12 => lt1 (if v12 < x5 then v12 else x5) (fun v13 => L_X12_may_87 fu x1 x3 v13 u10)))))))) := by
  refine ⟨4096, by decide, fun _ _ _ _ _ => ⟨?_, ?_⟩, fun _ _ _ _ _ => ?_⟩
  · unfold B_X12_may_47
    exact if_pos rfl
  · unfold B_X12_may_46 B_X12_may_47
    exact if_pos rfl
  · unfold B_X12_may_47
    exact if_neg (by decide)
theorem may_e {ν : gs_M} {k f t i c : Nat} {w : Int32} (hk : k < 4) (hf : f < 12) (ht : t < 12) (hi : i < 12) (hm : (f = i ∧ t = i + 1) ∨ (f = i + 1 ∧ t = i)) (hc : c ≤ 12) (hc2 : 2 ≤ c) (hcc : ν.1 89 (7 * k) = nI c)
    (hu : ∀ j, j < 12 → 0 ≤ (ν.1 89 (28 + 12 * k + j)).toInt ∧ (ν.1 89 (28 + 12 * k + j)).toInt ≤ 60) (h1 : 0 ≤ (ν.1 89 (7 * k + 1)).toInt ∧ (ν.1 89 (7 * k + 1)).toInt ≤ 40) (s1 : 0 ≤ (ν.1 89 (7 * k + 5)).toInt ∧ (ν.1 89 (7 * k + 5)).toInt ≤ 30) (b1 : 0 ≤ (ν.1 89 (7 * k + 3)).toInt ∧ (ν.1 89 (7 * k + 3)).toInt ≤ 40) (hw : 0 ≤ w.toInt) :
    ∃ n y : Int32, n = swM w (if nI i = bdN c (ν.1 89 (7 * k + 3)) then ν.1 89 (28 + 12 * k + f) - ν.1 89 (7 * k + 3) else ν.1 89 (28 + 12 * k + f)) (moN (ν.1 89 (7 * k + 1)) (ν.1 89 (7 * k + 5)) - ν.1 89 (28 + 12 * k + t)) ∧ y = (if 0 < n then n else 0) ∧ D_X12_may (nI k) (nI f) (nI t) w ν = some (y, ν) ∧ 0 ≤ y.toInt ∧ y.toInt ≤ (ν.1 89 (28 + 12 * k + f)).toInt ∧ (0 < n → y.toInt + (ν.1 89 (28 + 12 * k + t)).toInt ≤ 57) := by
  refine ⟨_, _, rfl, rfl, ?_⟩
  have hmo := moN_i h1.1 h1.2 s1.1 s1.2
  obtain ⟨uf1, uf2⟩ := hu f hf
  obtain ⟨ut1, ut2⟩ := hu t ht
  have hmin : (if nI t < nI f then nI t else nI f) = nI i := by
    rcases hm with ⟨rfl, rfl⟩ | ⟨rfl, rfl⟩
    · rw [if_neg (nI_nlt (by omega) (by omega))]
    · rw [if_pos (nI_lt (by omega) (by omega))]
  unfold D_X12_may
  simp only [lt1, mun_e hk hf, bd_s, mof_0 hk, hcc, hmin]
  generalize huf : ν.1 89 (28 + 12 * k + f) = uf at *
  generalize hut : ν.1 89 (28 + 12 * k + t) = ut at *
  generalize hMo : moN (ν.1 89 (7 * k + 1)) (ν.1 89 (7 * k + 5)) = mo at *
  generalize hbb : ν.1 89 (7 * k + 3) = b at *
  have hgap : (mo - ut).toInt = mo.toInt - ut.toInt := ti_sub (by omega) (by omega)
  have hx1 : (if uf < w then uf else w).toInt = min uf.toInt w.toInt := by
    by_cases h : uf < w
    · rw [if_pos h]; rw [ti_lt] at h; omega
    · rw [if_neg h]; rw [ti_lt] at h; omega
  have key : ∀ (fu : Nat) (x lim : Int32), 61 < fu → x.toInt = min w.toInt (max 0 lim.toInt) → lim.toInt ≤ uf.toInt → ∃ y, L_X12_may_87 fu (nI k) (nI t) x ν = some (y, ν) ∧ y = (if 0 < swM w lim (mo - ut) then swM w lim (mo - ut) else 0) ∧ 0 ≤ y.toInt ∧ y.toInt ≤ uf.toInt ∧ (0 < swM w lim (mo - ut) → y.toInt + ut.toInt ≤ 57) := by
    intro fu x lim hfu hx hl
    obtain ⟨y, g1, g2⟩ := mayL hk ht (by rw [hut]; omega) h1 s1 x.toInt.toNat fu x (by omega) (by omega) (by omega)
    rw [hMo, hut] at g2
    have h0 : (0 : Int32).toInt = 0 := by decide
    have hsw : (swM w lim (mo - ut)).toInt = min (mo.toInt - ut.toInt) (min lim.toInt w.toInt) := by
      unfold swM
      have e1 : (if lim < w then lim else w).toInt = min lim.toInt w.toInt := by
        by_cases h : lim < w
        · rw [if_pos h]; rw [ti_lt] at h; omega
        · rw [if_neg h]; rw [ti_lt] at h; omega
      by_cases h : mo - ut < (if lim < w then lim else w)
      · rw [if_pos h]; rw [ti_lt, e1] at h; omega
      · rw [if_neg h]; rw [ti_lt, e1] at h; omega
    refine ⟨y, g1, ti_ext ?_, by omega, by omega, fun h => ?_⟩
    · by_cases h : 0 < swM w lim (mo - ut)
      · rw [if_pos h]; rw [ti_lt, h0] at h; omega
      · rw [if_neg h]; rw [ti_lt, h0] at h; omega
    · rw [ti_lt, h0] at h
      omega
  obtain ⟨fu, hfu, hB1, hB2⟩ := may_B
  have hbe := bdN_e (c := c) (i := i) (b := b) hc hc2 hi
  by_cases hB : nI i = bdN c b
  · obtain ⟨q1, q2, q3⟩ := hbe.mp hB
    rw [if_pos hB, if_pos q2, if_pos q3]
    rw [hB2]
    simp only [mof_3 hk, bd_s, hbb, if_neg q1, mun_e hk hf, huf, lt1]
    have h0 : (0 : Int32).toInt = 0 := by decide
    have q4 : (uf - b).toInt = uf.toInt - b.toInt := ti_sub (by omega) (by omega)
    have q5 : (if 0 < uf - b then uf - b else 0).toInt = max 0 (uf.toInt - b.toInt) := by
      by_cases h : 0 < uf - b
      · rw [if_pos h]; rw [ti_lt, h0] at h; omega
      · rw [if_neg h]; rw [ti_lt, h0] at h; omega
    obtain ⟨y, g1, rfl, g3⟩ := key fu (if (if 0 < uf - b then uf - b else 0) < (if uf < w then uf else w) then (if 0 < uf - b then uf - b else 0) else (if uf < w then uf else w)) (uf - b) (by omega) (by
      by_cases h : (if 0 < uf - b then uf - b else 0) < (if uf < w then uf else w)
      · rw [if_pos h]; rw [ti_lt, q5, hx1] at h; omega
      · rw [if_neg h]; rw [ti_lt, q5, hx1] at h; omega) (by omega)
    exact ⟨g1, g3⟩
  · rw [if_neg hB]
    obtain ⟨y, g1, rfl, g3⟩ := key fu (if uf < w then uf else w) uf (by omega) (by omega) (by omega)
    refine ⟨?_, g3⟩
    by_cases q2 : nI i = nI c / 2 - 1
    · by_cases q3 : nI c - nI c / 2 * 2 = 0
      · rw [if_pos q2, if_pos q3, hB2]
        have q1 : b ≤ 0 := Classical.byContradiction fun q => hB (hbe.mpr ⟨q, q2, q3⟩)
        simp only [mof_3 hk, bd_s, hbb, if_pos q1]
        exact g1
      · rw [if_pos q2, if_neg q3, (hB1 _ _ _ _ _).2]
        exact g1
    · rw [if_neg q2, (hB1 _ _ _ _ _).2]
      exact g1
