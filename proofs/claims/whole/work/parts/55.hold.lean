/-! holds and columns -/
theorem nI_m1 {n : Nat} (h : 1 ≤ n) : nI n - 1 = nI (n - 1) := by
  obtain ⟨m, rfl⟩ : ∃ m, n = m + 1 := ⟨n - 1, by omega⟩
  exact nI_pred m
theorem inN_n {x : Int32} {n : Nat} (h1 : 1 ≤ n) (hn : n < 2 ^ 31) : ((x < 0 ∨ nI n ≤ x) ∧ inN x 0 (nI n - 1) = 0) ∨ ∃ k, k < n ∧ x = nI k ∧ inN x 0 (nI n - 1) = 1 := by
  rw [nI_m1 h1]
  rcases pk_ix x hn with h | h | ⟨k, hk, rfl⟩
  · exact Or.inl ⟨Or.inl h, inN_z (Or.inl (by rw [ti_lt] at h; exact h))⟩
  · refine Or.inl ⟨Or.inr h, inN_z (Or.inr ?_)⟩
    rw [ti_le, nI_toInt hn] at h
    rw [nI_toInt (by omega)]
    omega
  · refine Or.inr ⟨k, hk, rfl, inN_y ?_ ?_⟩
    · rw [nI_toInt (by omega)]; show (0 : Int) ≤ _; omega
    · rw [nI_toInt (by omega), nI_toInt (by omega)]; omega
theorem hh_e {μ ν : gs_M} {n : Nat} {x : Int32} (n1 : 1 ≤ n) (n4 : n ≤ 4) (hs : μ.1 26 1 = nI n) (h76 : ν.1 89 76 = nI n) (hl : ν.1 89 80 = 1) : (D_X10_hasHold 26 x μ = some (0, μ) ∧ D_X12_isHold x ν = some (0, ν)) ∨ ∃ k, k < n ∧ x = nI k ∧ D_X10_hasHold 26 x μ = some (1, μ) ∧ D_X12_isHold x ν = some (1, ν) := by
  unfold D_X10_hasHold D_X12_isHold B_X10_hasHold_16 B_X12_isHold_30
  rw [mnw_80, bd_s, if_pos hl, mnw_76, bd_s, h76, ii_e, bd_s, gI_d, hs]
  rcases inN_n (x := x) n1 (by omega) with ⟨h, e⟩ | ⟨k, hk, rfl, e⟩
  · refine Or.inl ⟨?_, by rw [e, if_pos rfl]⟩
    rcases h with h | h
    · rw [if_pos h]
    · by_cases q : x < 0
      · rw [if_pos q]
      · rw [if_neg q, if_pos h]
  · exact Or.inr ⟨k, hk, rfl, by rw [if_neg (nI_pos (by omega)), if_neg (nI_ge hk (by omega))], by rw [e, if_neg z10]⟩
theorem hh0_e {μ ν : gs_M} {x : Int32} (hs : μ.1 26 1 = 0) (hl : ν.1 89 80 = 0) : D_X10_hasHold 26 x μ = some (0, μ) ∧ D_X12_isHold x ν = some (0, ν) := by
  unfold D_X10_hasHold D_X12_isHold B_X10_hasHold_16 B_X12_isHold_30
  rw [mnw_80, bd_s, if_neg (show ¬ ν.1 89 80 = 1 by rw [hl]; decide), gI_d, hs]
  refine ⟨?_, rfl⟩
  by_cases q : x < 0
  · rw [if_pos q]
  · rw [if_neg q, if_pos (by rw [ti_le]; rw [ti_lt] at q; omega)]
/-- the hold's contract, live -/
theorem VR.h {μ ν : gs_M} {v st n B k : Nat} {d : Int64} (hV : VR μ v (ν.1 89) (ν.1 83) d st n B) (hk : k < n) : ∃ c o, o < st ∧ HC μ ν (v + 2 + 2 * k) k c o := by
  obtain ⟨⟨c, o, ho, hF, hU⟩, -⟩ := hV.1.2.2.2.2.2 k hk
  exact ⟨c, o, ho, hF, hU⟩
theorem k_about {i : Nat} (y : Int32) : CALLS i (D_X11_about y) (D_X12_about y) := by
  intro μ ν0 h0
  obtain ⟨ν, hν, h, he⟩ := th_e h0
  obtain ⟨st, hU, hL, hI, hQ, hgo⟩ := rt_live h
  have hS := hQ.1
  unfold D_X11_about D_X12_about
  simp only [lt1, ← hν]
  rw [mnw_80, bd_s]
  rcases ild_e hL with ⟨e1, e2⟩ | ⟨e1, e2, n, hV⟩
  · exact fin_e (r := -1000000) h he (by rw [e1, bd_s, if_pos rfl]) (by rw [if_pos e2])
  · rw [e1, bd_s, if_neg z10, if_neg (show ¬ ν.1 89 80 = 0 by rw [e2]; decide)]
    obtain ⟨r, l1, l2, -⟩ := lean_e hV.1 hS
    obtain ⟨r2, l3, l4, -⟩ := moms_e hV.1
    obtain ⟨hC, ht, hd, hlo, hlo2, hdb, hdr⟩ := hV
    by_cases k0 : y = 0
    · exact fin_e (r := r) h he (by rw [if_pos k0, l1, bd_s]) (by rw [if_pos k0, l2, bd_s])
    rw [if_neg k0, if_neg k0]
    by_cases k1 : y = 1
    · exact fin_e (r := ν.1 89 77) h he (by rw [if_pos k1, gI_d, ht]) (by rw [if_pos k1, mnw_77, bd_s])
    rw [if_neg k1, if_neg k1]
    by_cases k2 : y = 2
    · exact fin_e (r := ν.1 89 78) h he (by rw [if_pos k2, gI_d, hd]) (by rw [if_pos k2, mnw_78, bd_s])
    rw [if_neg k2, if_neg k2]
    by_cases k3 : y = 3
    · refine fin_e (r := ν.1 89 79) h he ?_ (by rw [if_pos k3, mnw_79, bd_s])
      rw [if_pos k3, gI_d, hlo]
      rcases hlo2 with z | z
      · rw [z, if_pos rfl]
      · rw [z, if_neg z10]
    rw [if_neg k3, if_neg k3]
    by_cases k4 : y = 4
    · exact fin_e (r := nI n) h he (by rw [if_pos k4, gI_d, hC.2.2.1]) (by rw [if_pos k4, mnw_76, bd_s, hC.2.2.2.1])
    rw [if_neg k4, if_neg k4]
    by_cases k5 : y = 5
    · exact fin_e (r := r2) h he (by rw [if_pos k5, l3, bd_s]) (by rw [if_pos k5, l4, bd_s])
    rw [if_neg k5, if_neg k5]
    exact fin_e (r := -1000000) h he rfl rfl
/-- the hold and column that a call names -/
theorem hc_e {μ ν : gs_M} {st B : Nat} {x z : Int32} (hL : cL μ ν st B) : (D_X10_hasColumn 26 x z μ = some (0, μ) ∧ ((D_X12_isHold x ν = some (0, ν)) ∨ (D_X12_isHold x ν = some (1, ν) ∧ ∃ k c, k < 4 ∧ x = nI k ∧ c ≤ 12 ∧ 2 ≤ c ∧ ν.1 89 (7 * k) = nI c ∧ inN z 0 (nI c - 1) = 0))) ∨ ∃ n k c o j, k < n ∧ n ≤ 4 ∧ x = nI k ∧ z = nI j ∧ j < c ∧ c ≤ 12 ∧ VR μ 26 (ν.1 89) (ν.1 83) (ν.2 78 33) st n B ∧ HC μ ν (28 + 2 * k) k c o ∧ o < st ∧ D_X10_hasColumn 26 x z μ = some (1, μ) ∧ D_X12_isHold x ν = some (1, ν) ∧ inN z 0 (nI c - 1) = 1 ∧ ν.1 89 (7 * k) = nI c := by
  rcases hL with ⟨h1, h2⟩ | ⟨n, hV⟩
  · obtain ⟨e1, e2⟩ := hh0_e (x := x) h1 h2
    refine Or.inl ⟨?_, Or.inl e2⟩
    unfold D_X10_hasColumn B_X10_hasColumn_29
    rw [e1, bd_s, if_pos rfl]
  · have hV' := hV
    obtain ⟨⟨n1, n4, hs, h76, hl, hH⟩, -⟩ := hV'
    rcases hh_e (x := x) n1 n4 hs h76 hl with ⟨e1, e2⟩ | ⟨k, hk, rfl, e1, e2⟩
    · refine Or.inl ⟨?_, Or.inl e2⟩
      unfold D_X10_hasColumn B_X10_hasColumn_29
      rw [e1, bd_s, if_pos rfl]
    · obtain ⟨c, o, ho, hC⟩ := hV.h hk
      have hC' := hC
      obtain ⟨⟨hc2, hc12, ho6, f1, w0, -⟩, -⟩ := hC'
      rcases inN_n (x := z) (n := c) (by omega) (by omega) with ⟨h, e⟩ | ⟨j, hj, rfl, e⟩
      · refine Or.inl ⟨?_, Or.inr ⟨e2, k, c, by omega, rfl, hc12, hc2, w0, e⟩⟩
        unfold D_X10_hasColumn B_X10_hasColumn_29
        rw [e1, bd_s, if_neg z10, inb_n (show k < 4 by omega) (by decide), ck_t, nI_clamp (by omega), gI_d, f1]
        rcases h with h | h
        · rw [if_pos h]
        · by_cases q : z < 0
          · rw [if_pos q]
          · rw [if_neg q, if_pos h]
      · refine Or.inr ⟨n, k, c, o, j, hk, n4, rfl, rfl, hj, hc12, hV, hC, ho, ?_, e2, e, w0⟩
        unfold D_X10_hasColumn B_X10_hasColumn_29
        rw [e1, bd_s, if_neg z10, inb_n (show k < 4 by omega) (by decide), ck_t, nI_clamp (by omega), gI_d, f1, if_neg (nI_pos (by omega)), if_neg (nI_ge hj (by omega))]
theorem tall_e {μ : gs_M} {a c j : Nat} (hj : j < c) (hc : c ≤ 12) (f1 : μ.1 a 1 = nI c) : D_X1_tall a (nI j) μ = some (μ.1 (a + 1) j * (100 - μ.1 a 4) / 10, μ) := by
  unfold D_X1_tall
  rw [wi_e, bd_s, gI_d, f1, inN_y (by rw [nI_toInt (by omega)]; show (0 : Int) ≤ _; omega) (by rw [nI_m1 (by omega), nI_toInt (by omega), nI_toInt (by omega)]; omega), if_neg z10, inb_n (show j < 12 by omega) (by decide), ck_t, nI_clamp (by omega), gI_d, gI_d]
theorem k_column {i : Nat} (y0 y1 y2 : Int32) : CALLS i (D_X11_column y0 y1 y2) (D_X12_column y0 y1 y2) := by
  intro μ ν0 h0
  obtain ⟨ν, hν, h, he⟩ := th_e h0
  obtain ⟨st, hU, hL, hI, hQ, hgo⟩ := rt_live h
  unfold D_X11_column D_X12_column
  simp only [lt1, ← hν, ii_e, bd_s]
  rcases hc_e (x := y0) (z := y1) hL with ⟨e1, e2 | ⟨e2, k, c, hk, rfl, c1, c2, w0, e3⟩⟩ | ⟨n, k, c, o, j, hk, n4, rfl, rfl, hj, c12, hV, hC, ho, e1, e2, e3, w0⟩
  · exact fin_e (r := -1) h he (by rw [e1, bd_s, if_pos rfl]) (by rw [e2, bd_s, if_pos rfl])
  · exact fin_e (r := -1) h he (by rw [e1, bd_s, if_pos rfl]) (by rw [e2, bd_s, if_neg z10, mof_0 hk, bd_s, w0, e3, if_pos rfl])
  · rw [e1, bd_s, if_neg z10, e2, bd_s, if_neg z10, mof_0 (by omega), bd_s, w0, e3, if_neg z10, inb_n (show k < 4 by omega) (by decide), ck_t, nI_clamp (by omega)]
    obtain ⟨⟨hc2, hc12, ho6, f1, _, w2, f8, f2, f3, f4, -⟩, hu⟩ := hC
    rcases inN_k y2 (lo := 0) (hi := 1) (L := 0) (H := 1) (by decide) (by decide) with z | ⟨z, a0, b0⟩
    · have q0 : ¬ y2 = 0 := fun q => by rw [q] at z; exact absurd z (by decide)
      have q1 : ¬ y2 = 1 := fun q => by rw [q] at z; exact absurd z (by decide)
      exact fin_e (r := -1) h he (by rw [if_neg q0, if_neg q1]) (by rw [z, if_pos rfl])
    · rw [z, if_neg z10]
      by_cases q0 : y2 = 0
      · exact fin_e (r := ν.1 89 (28 + 12 * k + j)) h he (by rw [if_pos q0, inb_n (show j < 12 by omega) (by decide), ck_t, nI_clamp (by omega), gI_d, (hu j (by omega)).1]) (by rw [if_pos q0, mun_e (by omega) (by omega), bd_s])
      · have q1 : y2 = 1 := by
          apply ti_ext
          have c0 : (0 : Int32).toInt = 0 := by decide
          have c1 : (1 : Int32).toInt = 1 := by decide
          have : y2.toInt ≠ 0 := fun e => q0 (ti_ext (by rw [e, c0]))
          omega
        refine fin_e (r := ν.1 89 (28 + 12 * k + j) * (100 - ν.1 89 (7 * k + 5)) / 10) h he ?_ ?_
        · rw [if_neg q0, if_pos q1, tall_e hj c12 f1, bd_s, (hu j (by omega)).1, f4]
        · rw [if_neg q0, mta_e (by omega) (by omega), bd_s]
/-- hold: the reference goes through the columns first -/
theorem hold_loop {μ ν : gs_M} {a k c o : Nat} {what : Int32} (hk : k < 4) (hC : HC μ ν a k c o) : ∀ (m i fu fu3 fu4 : Nat) (s t : Int32), i + m = c → m < fu3 → m < fu4 → ∃ s' t' : Int32, L_X12_hold_35 (fu + m) (nI k) what s t (nI i) ν = L_X12_hold_35 fu (nI k) what s' t' (nI c) ν ∧ L_X1_allUnits_4 fu3 a s (nI i) μ = some (s', μ) ∧ L_X1_gap_4 fu4 a t (nI i) μ = some (10 * μ.1 a 8 - t', μ) := by
  obtain ⟨⟨hc2, hc12, ho6, f1, w0, w2, f8, f2, f3, f4, -⟩, hu⟩ := hC
  intro m
  induction m with
  | zero =>
    intro i fu fu3 fu4 s t hi h3 h4
    obtain ⟨fu3, rfl⟩ : ∃ m, fu3 = m + 1 := ⟨fu3 - 1, by omega⟩
    obtain ⟨fu4, rfl⟩ : ∃ m, fu4 = m + 1 := ⟨fu4 - 1, by omega⟩
    obtain rfl : i = c := by omega
    refine ⟨s, t, rfl, ?_, ?_⟩
    · show Bo_X1_allUnits_4 _ _ _ _ _ = _
      unfold Bo_X1_allUnits_4
      rw [gI_d, f1, if_pos (nI_le (Nat.le_refl _) (by omega))]
    · show Bo_X1_gap_4 _ _ _ _ _ = _
      unfold Bo_X1_gap_4
      rw [gI_d, f1, if_pos (nI_le (Nat.le_refl _) (by omega)), gI_d]
  | succ m ih =>
    intro i fu fu3 fu4 s t hi h3 h4
    obtain ⟨fu3, rfl⟩ : ∃ m, fu3 = m + 1 := ⟨fu3 - 1, by omega⟩
    obtain ⟨fu4, rfl⟩ : ∃ m, fu4 = m + 1 := ⟨fu4 - 1, by omega⟩
    obtain ⟨u0, -⟩ := hu i (by omega)
    obtain ⟨s', t', q1, q2, q3⟩ := ih (i + 1) fu fu3 fu4 (s + μ.1 (a + 1) i) (if t < μ.1 (a + 1) i * (100 - μ.1 a 4) / 10 then μ.1 (a + 1) i * (100 - μ.1 a 4) / 10 else t) (by omega) (by omega) (by omega)
    refine ⟨s', t', ?_, ?_, ?_⟩
    · refine Eq.trans ?_ q1
      show Bo_X12_hold_35 _ _ _ _ _ _ _ = _
      unfold Bo_X12_hold_35
      rw [mof_0 hk, bd_s, w0, if_neg (nI_ge (show i < c by omega) (by omega)), mun_e hk (by omega), bd_s, lt1, mta_e hk (by omega), bd_s, lt1, nI_1, ← u0, ← f4]
      rfl
    · show Bo_X1_allUnits_4 _ _ _ _ _ = _
      unfold Bo_X1_allUnits_4
      rw [gI_d, f1, if_neg (nI_ge (show i < c by omega) (by omega)), inb_n (show i < 12 by omega) (by decide), ck_t, nI_clamp (by omega), lt1, nI_1, gI_d]
      exact q2
    · show Bo_X1_gap_4 _ _ _ _ _ = _
      unfold Bo_X1_gap_4
      rw [gI_d, f1, if_neg (nI_ge (show i < c by omega) (by omega)), tall_e (show i < c by omega) hc12 f1, bd_s, lt1, nI_1]
      exact q3
theorem k_hold {i : Nat} (y0 y1 : Int32) : CALLS i (D_X11_hold y0 y1) (D_X12_hold y0 y1) := by
  intro μ ν0 h0
  obtain ⟨ν, hν, h, he⟩ := th_e h0
  obtain ⟨st, hU, hL, hI, hQ, hgo⟩ := rt_live h
  unfold D_X11_hold D_X12_hold
  simp only [lt1, ← hν, ii_e, bd_s]
  rcases hL with ⟨h1, h2⟩ | ⟨n, hV⟩
  · obtain ⟨e1, e2⟩ := hh0_e (x := y0) h1 h2
    exact fin_e (r := -1000000) h he (by rw [e1, bd_s, if_pos rfl]) (by rw [e2, bd_s, if_pos rfl])
  · have hV' := hV
    obtain ⟨⟨n1, n4, hs, h76, hl, hH⟩, -⟩ := hV'
    rcases hh_e (x := y0) n1 n4 hs h76 hl with ⟨e1, e2⟩ | ⟨k, hk, rfl, e1, e2⟩
    · exact fin_e (r := -1000000) h he (by rw [e1, bd_s, if_pos rfl]) (by rw [e2, bd_s, if_pos rfl])
    · obtain ⟨c, o, ho, hC⟩ := hV.h hk
      have hk4 : k < 4 := by omega
      obtain ⟨s', t', q1, q2, q3⟩ := hold_loop (what := y1) hk4 hC c 0 (4096 - c) 4096 4096 0 0 (by omega) (by have := hC.1.2.1; omega) (by have := hC.1.2.1; omega)
      obtain ⟨r, m1, m2, -⟩ := mom_e hk4 hC
      have hC' := hC
      obtain ⟨⟨hc2, hc12, ho6, f1, w0, w2, f8, f2, f3, f4, f5, ⟨p9, p10, p11, p12, p13⟩, -⟩, hu⟩ := hC'
      rw [Nat.sub_add_cancel (show c ≤ 4096 by omega)] at q1
      obtain ⟨f, hf⟩ : ∃ f, 4096 - c = f + 1 := ⟨4095 - c, by omega⟩
      have q1' : L_X12_hold_35 4096 (nI k) y1 0 0 0 ν = L_X12_hold_35 (f + 1) (nI k) y1 s' t' (nI c) ν := by rw [← hf]; exact q1
      have q4 : L_X12_hold_35 (f + 1) (nI k) y1 s' t' (nI c) ν = Bo_X12_hold_35 (L_X12_hold_35 f) (nI k) y1 s' t' (nI c) ν := rfl
      rw [e1, bd_s, if_neg z10, e2, bd_s, if_neg z10, inb_n hk4 (by decide), ck_t, nI_clamp (by omega)]
      rw [q1', q4]
      unfold Bo_X12_hold_35
      rw [mof_0 hk4, bd_s, w0, if_pos (nI_le (Nat.le_refl _) (by omega)), lt1]
      have q2' : D_X1_allUnits (26 + 2 + 2 * k) μ = some (s', μ) := q2
      have q3' : D_X1_gap (26 + 2 + 2 * k) μ = some (10 * μ.1 (26 + 2 + 2 * k) 8 - t', μ) := q3
      by_cases k0 : y1 = 0
      · exact fin_e (r := s') h he (by rw [if_pos k0, q2', bd_s]) (by rw [k0, show inN 0 0 6 = 1 by decide, if_neg z10, if_pos rfl])
      rw [if_neg k0, if_neg k0]
      by_cases k1 : y1 = 1
      · exact fin_e (r := r) h he (by rw [if_pos k1, m1, bd_s]) (by rw [k1, show inN 1 0 6 = 1 by decide, if_neg z10, if_pos rfl, m2, bd_s])
      rw [if_neg k1, if_neg k1]
      by_cases k2 : y1 = 2
      · exact fin_e (r := ν.1 89 (7 * k + 5)) h he (by rw [if_pos k2, gI_d, f4]) (by rw [k2, show inN 2 0 6 = 1 by decide, if_neg z10, if_pos rfl, mof_5 hk4, bd_s])
      rw [if_neg k2, if_neg k2]
      by_cases k3 : y1 = 3
      · exact fin_e (r := ν.1 89 (7 * k + 6)) h he (by rw [if_pos k3, gI_d, f5]) (by rw [k3, show inN 3 0 6 = 1 by decide, if_neg z10, if_pos rfl, mof_6 hk4, bd_s])
      rw [if_neg k3, if_neg k3]
      by_cases k4 : y1 = 4
      · have s1 : D_X1_isSoup (26 + 2 + 2 * k) (gI μ (26 + 2 + 2 * k) 5) μ = some (if ν.1 89 (7 * k + 6) * ν.1 83 (5 * o + 2) ≤ ν.1 83 (5 * o + 3) then 0 else 1, μ) := by
          unfold D_X1_isSoup
          rw [gI_d, gI_d, gI_d, f5, p11, p12]
          by_cases q : ν.1 89 (7 * k + 6) * ν.1 83 (5 * o + 2) ≤ ν.1 83 (5 * o + 3)
          · rw [if_pos q, if_pos q]
          · rw [if_neg q, if_neg q]
        have s2 := mso_e (ν := ν) hk4 (show o < 7 by omega) w2
        by_cases q : ν.1 89 (7 * k + 6) * ν.1 83 (5 * o + 2) ≤ ν.1 83 (5 * o + 3)
        · rw [if_pos q] at s1 s2
          exact fin_e (r := 0) h he (by rw [if_pos k4, s1, bd_s, if_pos rfl]) (by rw [k4, show inN 4 0 6 = 1 by decide, if_neg z10, if_pos rfl, s2, bd_s, if_pos rfl])
        · rw [if_neg q] at s1 s2
          exact fin_e (r := 1) h he (by rw [if_pos k4, s1, bd_s, if_neg z10]) (by rw [k4, show inN 4 0 6 = 1 by decide, if_neg z10, if_pos rfl, s2, bd_s, if_neg z10])
      rw [if_neg k4, if_neg k4]
      by_cases k5 : y1 = 5
      · refine fin_e (r := faN (ν.1 89 (7 * k + 6)) (ν.1 83 (5 * o + 2)) (ν.1 83 (5 * o + 3)) (ν.1 83 (5 * o)) (ν.1 89 (7 * k + 4))) h he ?_ ?_
        · rw [if_pos k5, cfa_e, bd_s, f5, p11, p12, p9, f3]
        · rw [k5, show inN 5 0 6 = 1 by decide, if_neg z10, if_pos rfl, mfa_e hk4 (show o < 7 by omega) w2, bd_s]
      rw [if_neg k5, if_neg k5]
      by_cases k6 : y1 = 6
      · exact fin_e (r := 10 * μ.1 (26 + 2 + 2 * k) 8 - t') h he (by rw [if_pos k6, q3', bd_s]) (by rw [k6, show inN 6 0 6 = 1 by decide, if_neg z10, mof_1 hk4, bd_s, f8])
      rw [if_neg k6]
      refine fin_e (r := -1000000) h he rfl ?_
      rcases inN_k y1 (lo := 0) (hi := 6) (L := 0) (H := 6) (by decide) (by decide) with z | ⟨z, a0, b0⟩
      · rw [z, if_pos rfl]
      · exfalso
        obtain ⟨j, hj, rfl⟩ := ti_nat (x := y1) (m := 6) (by omega) (by omega)
        obtain rfl | rfl | rfl | rfl | rfl | rfl | rfl : j = 0 ∨ j = 1 ∨ j = 2 ∨ j = 3 ∨ j = 4 ∨ j = 5 ∨ j = 6 := by omega
        · exact k0 rfl
        · exact k1 rfl
        · exact k2 rfl
        · exact k3 rfl
        · exact k4 rfl
        · exact k5 rfl
        · exact k6 rfl
