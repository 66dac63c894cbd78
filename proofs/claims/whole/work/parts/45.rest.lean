/-! a sweep, a rest: class and reference together -/
theorem upd_self (f : Nat → Int32) (j : Nat) : upd f j (f j) = f := by
  funext i
  by_cases h : i = j
  · subst h; exact pk_us
  · exact pk_un h
theorem HF.go {f f' w w' p : Nat → Int32} {k c o : Nat} (hk : k < 4) (h : HF f w p k c o) (hf : ∀ j, j ≠ 6 → j ≠ 7 → f' j = f j) (hw : ∀ j, j < 28 → w' j = w j) : HF f' w' p k c o := by
  unfold HF at *
  rw [hf 1 (by decide) (by decide), hf 2 (by decide) (by decide), hf 3 (by decide) (by decide), hf 4 (by decide) (by decide), hf 5 (by decide) (by decide), hf 8 (by decide) (by decide), hf 9 (by decide) (by decide), hf 10 (by decide) (by decide), hf 11 (by decide) (by decide), hf 12 (by decide) (by decide), hf 13 (by decide) (by decide)]
  rw [hw (7 * k) (by omega), hw (7 * k + 1) (by omega), hw (7 * k + 2) (by omega), hw (7 * k + 3) (by omega), hw (7 * k + 4) (by omega), hw (7 * k + 5) (by omega), hw (7 * k + 6) (by omega)]
  exact h
theorem swM_le {v lim gap : Int32} (h : ¬ 0 < v) : ¬ 0 < swM v lim gap := by
  have h0 : (0 : Int32).toInt = 0 := by decide
  rw [ti_lt, h0] at h ⊢
  unfold swM
  by_cases h1 : lim < v
  · rw [if_pos h1]
    rw [ti_lt] at h1
    by_cases h2 : gap < lim
    · rw [if_pos h2]; rw [ti_lt] at h2; omega
    · rw [if_neg h2]; omega
  · rw [if_neg h1]
    by_cases h2 : gap < v
    · rw [if_pos h2]; rw [ti_lt] at h2; omega
    · rw [if_neg h2]; omega
def ndN (n : Int32) : Int32 := if 0 < n then n else 0
theorem ndN_p {n : Int32} : 0 < ndN n ↔ 0 < n := by
  unfold ndN
  by_cases h : 0 < n
  · rw [if_pos h]
  · rw [if_neg h]
    exact ⟨fun q => absurd q (by decide), fun q => absurd q h⟩
/-- class: one place -/
theorem cs_go {μ : gs_M} {a i c f t : Nat} {sl fast most any sh bb d v n : Int32} {q : Nat → Int32 → Int32 → Int32 → Int32 → Int32 → Int32 → Int32 → gs_M → Option (Int32 × gs_M)} (hc : c ≤ 12) (hi : i + 1 < c) (hcol : μ.1 a 1 = nI c) (hd : d = swD (μ.1 (a + 1) i) (μ.1 (a + 1) (i + 1)) sh sl) (hv1 : v = swV d fast) (hft : (¬ d ≤ 0 ∧ f = i ∧ t = i + 1) ∨ (d ≤ 0 ∧ f = i + 1 ∧ t = i))
    (hn : n = swM v (if nI i = bb then μ.1 (a + 1) f - μ.1 a 2 else μ.1 (a + 1) f) (most - μ.1 (a + 1) t)) : ∃ μ' : gs_M, Bo_X1_sweep_45 q a sl fast most any sh bb (nI i) μ = q a sl fast most (if 0 < ndN n then 1 else any) sh bb (nI (i + 1)) μ' ∧ μ'.1 (a + 1) = upd (upd (μ.1 (a + 1)) f (μ.1 (a + 1) f - ndN n)) t (μ.1 (a + 1) t + ndN n) ∧ (f < t → μ'.1 a 6 = μ.1 a 6 + ndN n ∧ μ'.1 a 7 = μ.1 a 7) ∧ (t < f → μ'.1 a 6 = μ.1 a 6 ∧ μ'.1 a 7 = μ.1 a 7 + ndN n) ∧ FC μ μ' a := by
  have hz : ∀ x : Int32, x + 0 = x := Int32.add_zero
  have hs : ∀ x : Int32, x - 0 = x := Int32.sub_zero
  have hstay : ¬ 0 < n → ndN n = 0 := fun h => if_neg h
  have hif : (if 0 < ndN n then (1 : Int32) else any) = if 0 < n then 1 else any := by
    by_cases h : 0 < n
    · rw [if_pos h, if_pos (ndN_p.mpr h)]
    · rw [if_neg h, if_neg (fun q => h (ndN_p.mp q))]
  have stay : ∀ μ' : gs_M, ¬ 0 < n → μ' = μ → μ'.1 (a + 1) = upd (upd (μ.1 (a + 1)) f (μ.1 (a + 1) f - ndN n)) t (μ.1 (a + 1) t + ndN n) ∧ (f < t → μ'.1 a 6 = μ.1 a 6 + ndN n ∧ μ'.1 a 7 = μ.1 a 7) ∧ (t < f → μ'.1 a 6 = μ.1 a 6 ∧ μ'.1 a 7 = μ.1 a 7 + ndN n) ∧ FC μ μ' a := by
    rintro μ' h rfl
    rw [hstay h, hs, hz, upd_self, upd_self, hz, hz]
    exact ⟨rfl, fun _ => ⟨rfl, rfl⟩, fun _ => ⟨rfl, rfl⟩, FC.refl⟩
  by_cases hv : 0 < v
  · rcases hft with ⟨hd0, rfl, rfl⟩ | ⟨hd0, rfl, rfl⟩
    · obtain ⟨μ', h1, h2, h3, h4, h5⟩ := cs_goR (q := q) (any := any) hc hi hcol hd hv1 hv hd0 hn
      rw [hif]
      refine ⟨μ', h1, ?_⟩
      by_cases hp : 0 < n
      · obtain ⟨g1, g2⟩ := h3 hp
        rw [show ndN n = n from if_pos hp]
        refine ⟨g1, fun _ => ?_, fun h => absurd h (by omega), h4, fun j j1 j2 => ?_, h5⟩
        · rw [g2, pk_un (show 6 ≠ 7 by decide), pk_us, pk_us, hz]
          exact ⟨rfl, rfl⟩
        · rw [g2, pk_un j2, pk_un j1]
      · exact stay μ' hp (h2 hp)
    · obtain ⟨μ', h1, h2, h3, h4, h5⟩ := cs_goL (q := q) (any := any) hc hi hcol hd hv1 hv hd0 hn
      rw [hif]
      refine ⟨μ', h1, ?_⟩
      by_cases hp : 0 < n
      · obtain ⟨g1, g2⟩ := h3 hp
        rw [show ndN n = n from if_pos hp]
        refine ⟨g1, fun h => absurd h (by omega), fun _ => ?_, h4, fun j j1 j2 => ?_, h5⟩
        · rw [g2, pk_un (show 6 ≠ 7 by decide), pk_us, pk_us, hz]
          exact ⟨rfl, rfl⟩
        · rw [g2, pk_un j2, pk_un j1]
      · exact stay μ' hp (h2 hp)
  · have hp : ¬ 0 < n := by rw [hn]; exact swM_le hv
    refine ⟨μ, ?_, stay μ hp rfl⟩
    rw [hif, if_neg hp]
    exact cs_stay hc hi hcol (by rw [← hd, ← hv1]; exact hv)
/-- what moved, both sides -/
theorem sw_mv {μ ν μ' ν' : gs_M} {a k c o i f t : Nat} {y : Int32} (hk : k < 4) (hi : i + 1 < c) (hft : (f = i ∧ t = i + 1) ∨ (f = i + 1 ∧ t = i)) (hC : HC μ ν a k c o) (y0 : 0 ≤ y.toInt) (y1 : y.toInt ≤ (μ.1 (a + 1) f).toInt) (y2 : 0 < y → y.toInt + (μ.1 (a + 1) t).toInt ≤ 57)
    (c1 : μ'.1 (a + 1) = upd (upd (μ.1 (a + 1)) f (μ.1 (a + 1) f - y)) t (μ.1 (a + 1) t + y)) (c2 : f < t → μ'.1 a 6 = μ.1 a 6 + y ∧ μ'.1 a 7 = μ.1 a 7) (c3 : t < f → μ'.1 a 6 = μ.1 a 6 ∧ μ'.1 a 7 = μ.1 a 7 + y) (c4 : FC μ μ' a)
    (m1 : ν'.1 89 = upd (upd (ν.1 89) (28 + 12 * k + f) (ν.1 89 (28 + 12 * k + f) - y)) (28 + 12 * k + t) (ν.1 89 (28 + 12 * k + t) + y)) (m2 : ∀ b, b ≠ 78 → b ≠ 89 → ν'.1 b = ν.1 b) (m3 : ν'.2 = ν.2) (m4 : f < t → ν'.1 78 = upd (ν.1 78) 37 (ν.1 78 37 + y)) (m5 : t < f → ν'.1 78 = upd (ν.1 78) 38 (ν.1 78 38 + y)) :
    HC μ' ν' a k c o ∧ FM ν ν' k ∧ GC 60 μ ν μ' ν' a c := by
  obtain ⟨hF, hU⟩ := hC
  have hF2 := hF
  obtain ⟨hc2, hc12, -⟩ := hF2
  have hne : t ≠ f := by omega
  have hf12 : f < 12 := by omega
  have ht12 : t < 12 := by omega
  obtain ⟨uf, uf1, uf2⟩ := hU f hf12
  obtain ⟨ut, ut1, ut2⟩ := hU t ht12
  have h0 : (0 : Int32).toInt = 0 := by decide
  have hy3 : y.toInt + (μ.1 (a + 1) t).toInt ≤ 60 := by
    by_cases h : 0 < y
    · have := y2 h; omega
    · rw [ti_lt, h0] at h; omega
  have e1 : (μ.1 (a + 1) f - y).toInt = (μ.1 (a + 1) f).toInt - y.toInt := ti_sub (by omega) (by omega)
  have e2 : (μ.1 (a + 1) t + y).toInt = (μ.1 (a + 1) t).toInt + y.toInt := ti_add (by omega) (by omega)
  have hw28 : ∀ j, j < 28 + 12 * k ∨ 40 + 12 * k ≤ j → ν'.1 89 j = ν.1 89 j := fun j hj => by
    rw [m1, pk_un (by omega), pk_un (by omega)]
  have hp : ν'.1 83 = ν.1 83 := m2 83 (by decide) (by decide)
  refine ⟨⟨?_, fun j hj => ?_⟩, ⟨m2, fun j j1 j2 => ?_, hw28, m3⟩, ⟨?_, ?_, ?_, ?_⟩⟩
  · rw [hp]
    exact hF.go hk c4.2.1 (fun j hj => hw28 j (Or.inl (by omega)))
  · obtain ⟨uj, uj1, uj2⟩ := hU j hj
    rw [c1, m1]
    by_cases q1 : j = t
    · subst q1
      rw [pk_us, pk_us, ← ut]
      exact ⟨rfl, by omega, by omega⟩
    · rw [pk_un q1, pk_un (show 28 + 12 * k + j ≠ 28 + 12 * k + t by omega)]
      by_cases q2 : j = f
      · subst q2
        rw [pk_us, pk_us, ← uf]
        exact ⟨rfl, by omega, by omega⟩
      · rw [pk_un q2, pk_un (show 28 + 12 * k + j ≠ 28 + 12 * k + f by omega)]
        exact ⟨uj, uj1, uj2⟩
  · rcases Nat.lt_or_gt_of_ne hne with h | h
    · rw [m5 h, pk_un j2]
    · rw [m4 h, pk_un j1]
  · rcases Nat.lt_or_gt_of_ne hne with h | h
    · rw [m5 h, pk_un (by decide), (c3 h).1, Int32.sub_self, Int32.sub_self]
    · rw [m4 h, pk_us, (c2 h).1]
      grind
  · rcases Nat.lt_or_gt_of_ne hne with h | h
    · rw [m5 h, pk_us, (c3 h).2]
      grind
    · rw [m4 h, pk_un (by decide), (c2 h).2, Int32.sub_self, Int32.sub_self]
  · rw [c1]
    exact sw_sl _ (by omega) (by omega) hne e1 e2
  · obtain ⟨q, q1, q2⟩ := ti_nat (x := y) (m := 60) y0 (by omega)
    rcases Nat.lt_or_gt_of_ne hne with h | h
    · exact ⟨0, q, by omega, q1, by rw [(c3 h).1, nI_0, Int32.add_zero], by rw [(c3 h).2, q2]⟩
    · exact ⟨q, 0, q1, by omega, by rw [(c2 h).1, q2], by rw [(c2 h).2, nI_0, Int32.add_zero]⟩
