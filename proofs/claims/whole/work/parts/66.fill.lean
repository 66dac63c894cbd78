/-! filling a hold -/
theorem su_ge {f : Nat → Int32} {h : Int} : ∀ {n : Nat}, (∀ j, j < n → h ≤ (f j).toInt) → (n : Int) * h ≤ su f n
  | 0, _ => by show ((0 : Nat) : Int) * h ≤ 0; omega
  | n + 1, hh => by
    have ih := su_ge (f := f) (h := h) (n := n) (fun j hj => hh j (by omega))
    have := hh n (by omega)
    show ((n + 1 : Nat) : Int) * h ≤ su f n + (f n).toInt
    have e : ((n + 1 : Nat) : Int) * h = (n : Int) * h + h := by
      rw [Int.natCast_add, Int.add_mul, show ((1 : Nat) : Int) = 1 from rfl, Int.one_mul]
    omega
theorem su_zero {f : Nat → Int32} : ∀ {n : Nat}, (∀ j, j < n → f j = 0) → su f n = 0
  | 0, _ => rfl
  | n + 1, h => by
    show su f n + (f n).toInt = 0
    rw [su_zero (fun j hj => h j (by omega)), h n (by omega)]
    decide
theorem HC.un {μ ν : gs_M} {a k c o j : Nat} {x : Int32} (h : HC μ ν a k c o) (hk : k < 4) (hj : j < 12) (x0 : 0 ≤ x.toInt) (x1 : x.toInt ≤ 60) : HC (sI μ (a + 1) j x) (sI ν 89 (28 + 12 * k + j) x) a k c o ∧ FC μ (sI μ (a + 1) j x) a ∧ FM ν (sI ν 89 (28 + 12 * k + j) x) k := by
  obtain ⟨hF, hU⟩ := h
  refine ⟨⟨?_, fun e he => ?_⟩, ⟨fun b _ h2 => sI_n _ _ _ h2, fun j _ _ => by rw [sI_n _ _ _ (by omega)], rfl⟩, ⟨fun b _ h2 => sI_n _ _ _ h2, fun j _ _ => by rw [sI_n _ _ _ (by decide)], fun i hi => by rw [sI_s, pk_un (by omega)], rfl⟩⟩
  · rw [sI_n _ _ _ (show (83 : Nat) ≠ 89 by decide)]
    exact hF.go hk (fun j _ _ => by rw [sI_n _ _ _ (by omega)]) (fun j hj => by rw [sI_s, pk_un (by omega)])
  · rw [sI_s, sI_s]
    by_cases q : e = j
    · subst q
      rw [pk_us, pk_us]
      exact ⟨rfl, x0, x1⟩
    · rw [pk_un q, pk_un (by omega)]
      exact hU e he
/-- the nearest column that isn't full -/
theorem near_loop {μ ν : gs_M} {a k c o h M : Nat} (hk : k < 4) (hC : HC μ ν a k c o) (h8 : μ.1 a 8 = nI h) (hh : h ≤ 40) (hM : M < c) : ∀ (m d fu fu2 : Nat), d + m = c → m < fu → m < fu2 → (∃ j, j < c ∧ (μ.1 (a + 1) j).toInt < h ∧ (d ≤ M - j ∧ d ≤ j - M ∨ j + d ≤ M ∨ M + d ≤ j)) → ∃ j, j < c ∧ (μ.1 (a + 1) j).toInt < h ∧ L_X1_nearestNotFull_2 fu a (nI M) (nI d) μ = some (nI j, μ) ∧ L_X12_nearest_2 fu2 (nI k) (nI M) (nI d) ν = some (nI j, ν) := by
  obtain ⟨⟨hc2, hc12, ho6, f1, w0, w2, f8, -⟩, hu⟩ := hC
  have w1 : ν.1 89 (7 * k + 1) = nI h := by rw [← f8]; exact h8
  have lt_e : ∀ j, j < c → (nI h ≤ μ.1 (a + 1) j ↔ ¬ (μ.1 (a + 1) j).toInt < h) := fun j hj => by
    rw [ti_le, nI_toInt (by omega)]
    omega
  intro m
  induction m with
  | zero =>
    rintro d fu fu2 hd hf hf2 ⟨j, j1, j2, j3⟩
    omega
  | succ m ih =>
    rintro d fu fu2 hd hf hf2 ⟨j, j1, j2, j3⟩
    obtain ⟨fu, rfl⟩ : ∃ m, fu = m + 1 := ⟨fu - 1, by omega⟩
    obtain ⟨fu2, rfl⟩ : ∃ m, fu2 = m + 1 := ⟨fu2 - 1, by omega⟩
    have q12 : ¬ (12 : Int32) ≤ nI d := nI_ge (a := d) (b := 12) (by omega) (by omega)
    have eup : nI M + nI d = nI (M + d) := nI_add M d
    have em1 : nI M + -1 * nI d = nI M - nI d := by grind
    have ep1 : nI M + (-1 + 2) * nI d = nI (M + d) := by rw [← nI_add, show (-1 + 2 : Int32) = 1 by decide, Int32.one_mul]
    -- what the upper one gives
    have up : ∀ fu3, ∃ z : Int32, (z = 0 ∨ z = 1) ∧ (z = 1 → M + d < c ∧ (μ.1 (a + 1) (M + d)).toInt < h) ∧ (z = 0 → ¬ (M + d < c ∧ (μ.1 (a + 1) (M + d)).toInt < h)) ∧ B_X1_nearestNotFull_38 (L_X1_nearestNotFull_2 fu) a (nI M) (nI d) (nI (M + d)) μ = (if z = 0 then L_X1_nearestNotFull_2 fu a (nI M) (nI (d + 1)) μ else some (nI (M + d), μ)) ∧ L_X12_nearest_11 (L_X12_nearest_2 fu2) (fu3 + 2) (nI k) (nI M) (nI d) (-1 + 2) ν = (if z = 0 then L_X12_nearest_2 fu2 (nI k) (nI M) (nI (d + 1)) ν else some (nI (M + d), ν)) := by
      intro fu3
      have last : L_X12_nearest_11 (L_X12_nearest_2 fu2) (fu3 + 1) (nI k) (nI M) (nI d) (-1 + 2 + 2) ν = L_X12_nearest_2 fu2 (nI k) (nI M) (nI (d + 1)) ν := by
        show Bo_X12_nearest_11 _ _ _ _ _ _ _ = _
        unfold Bo_X12_nearest_11
        rw [if_pos (by decide), nI_1]
      by_cases z : M + d < c ∧ (μ.1 (a + 1) (M + d)).toInt < h
      · refine ⟨1, Or.inr rfl, fun _ => z, fun q => absurd q z10, ?_, ?_⟩
        · unfold B_X1_nearestNotFull_38
          rw [gI_d, f1, if_neg (nI_ge z.1 (by omega)), inb_n (show M + d < 12 by omega) (by decide), ck_t, nI_clamp (by omega), gI_d, h8, gI_d, if_neg (fun q => (lt_e _ z.1).mp q z.2), if_neg z10]
        · show Bo_X12_nearest_11 _ _ _ _ _ _ _ = _
          unfold Bo_X12_nearest_11
          rw [if_neg (by decide), lt1, ep1, mof_0 hk, bd_s, w0, ii_e, bd_s, inN_y (by rw [nI_toInt (by omega)]; show (0 : Int) ≤ _; omega) (by rw [nI_m1 (by omega), nI_toInt (by omega), nI_toInt (by omega)]; omega), if_neg z10, mun_e hk (by omega), bd_s, mof_1 hk, bd_s, w1, ← (hu (M + d) (by omega)).1, if_neg (fun q => (lt_e _ z.1).mp q z.2), if_neg z10]
      · refine ⟨0, Or.inl rfl, fun q => absurd q (by decide), fun _ => z, ?_, ?_⟩
        · unfold B_X1_nearestNotFull_38
          rw [gI_d, f1, if_pos rfl, nI_1]
          by_cases z2 : M + d < c
          · rw [if_neg (nI_ge z2 (by omega)), inb_n (show M + d < 12 by omega) (by decide), ck_t, nI_clamp (by omega), gI_d, h8, gI_d, if_pos ((lt_e _ z2).mpr (fun q => z ⟨z2, q⟩))]
          · rw [if_pos (nI_le (by omega) (by omega))]
        · show Bo_X12_nearest_11 _ _ _ _ _ _ _ = _
          unfold Bo_X12_nearest_11
          rw [if_neg (by decide), lt1, ep1, mof_0 hk, bd_s, w0, ii_e, bd_s, if_pos rfl]
          by_cases z2 : M + d < c
          · rw [inN_y (by rw [nI_toInt (by omega)]; show (0 : Int) ≤ _; omega) (by rw [nI_m1 (by omega), nI_toInt (by omega), nI_toInt (by omega)]; omega), if_neg z10, mun_e hk (by omega), bd_s, mof_1 hk, bd_s, w1, ← (hu (M + d) (by omega)).1, if_pos ((lt_e _ z2).mpr (fun q => z ⟨z2, q⟩))]
            exact last
          · rw [inN_z (Or.inr (by rw [nI_m1 (by omega), nI_toInt (by omega), nI_toInt (by omega)]; omega)), if_pos rfl]
            exact last
    obtain ⟨z, hz01, hz1, hz0, uc, um⟩ := up 4093
    -- what the lower one gives
    have cl : L_X1_nearestNotFull_2 (fu + 1) a (nI M) (nI d) μ = if d ≤ M ∧ (μ.1 (a + 1) (M - d)).toInt < h then some (nI (M - d), μ) else B_X1_nearestNotFull_38 (L_X1_nearestNotFull_2 fu) a (nI M) (nI d) (nI (M + d)) μ := by
      show Bo_X1_nearestNotFull_2 _ _ _ _ _ = _
      unfold Bo_X1_nearestNotFull_2
      rw [gI_d, f1, if_neg (nI_ge (show d < c by omega) (by omega)), lt1, lt1, eup]
      by_cases z2 : d ≤ M
      · rw [pk_sub z2, if_neg (nI_pos (by omega)), inb_n (show M - d < 12 by omega) (by decide), ck_t, nI_clamp (by omega), gI_d, gI_d, h8]
        by_cases z3 : (μ.1 (a + 1) (M - d)).toInt < h
        · rw [if_neg (fun q => (lt_e _ (by omega)).mp q z3), if_pos ⟨z2, z3⟩]
        · rw [if_pos ((lt_e _ (by omega)).mpr z3), if_neg (fun q => z3 q.2)]
      · rw [if_pos (pk_sneg (by omega) (by omega)), if_neg (fun q => z2 q.1)]
    have ml : L_X12_nearest_2 (fu2 + 1) (nI k) (nI M) (nI d) ν = if d ≤ M ∧ (μ.1 (a + 1) (M - d)).toInt < h then some (nI (M - d), ν) else L_X12_nearest_11 (L_X12_nearest_2 fu2) (4093 + 2) (nI k) (nI M) (nI d) (-1 + 2) ν := by
      show Bo_X12_nearest_2 _ _ _ _ _ = _
      unfold Bo_X12_nearest_2
      rw [if_neg q12]
      show Bo_X12_nearest_11 _ (L_X12_nearest_11 (L_X12_nearest_2 fu2) (4093 + 2)) _ _ _ _ _ = _
      unfold Bo_X12_nearest_11
      rw [if_neg (by decide), lt1, em1, mof_0 hk, bd_s, w0, ii_e, bd_s]
      by_cases z2 : d ≤ M
      · rw [pk_sub z2, inN_y (by rw [nI_toInt (by omega)]; show (0 : Int) ≤ _; omega) (by rw [nI_m1 (by omega), nI_toInt (by omega), nI_toInt (by omega)]; omega), if_neg z10, mun_e hk (by omega), bd_s, mof_1 hk, bd_s, w1, ← (hu (M - d) (by omega)).1]
        by_cases z3 : (μ.1 (a + 1) (M - d)).toInt < h
        · rw [if_neg (fun q => (lt_e _ (by omega)).mp q z3), if_pos ⟨z2, z3⟩]
        · rw [if_pos ((lt_e _ (by omega)).mpr z3), if_neg (fun q => z3 q.2)]
      · rw [inN_z (Or.inl (by have := pk_sneg (a := M) (b := d) (by omega) (by omega); rw [ti_lt] at this; exact this)), if_pos rfl, if_neg (fun q => z2 q.1)]
    rw [cl, ml]
    by_cases z2 : d ≤ M ∧ (μ.1 (a + 1) (M - d)).toInt < h
    · rw [if_pos z2, if_pos z2]
      exact ⟨M - d, by omega, z2.2, rfl, rfl⟩
    · rw [if_neg z2, if_neg z2, uc, um]
      rcases hz01 with e | e
      · rw [if_pos e, if_pos e]
        refine ih (d + 1) fu fu2 (by omega) (by omega) (by omega) ⟨j, j1, j2, ?_⟩
        have h0 := hz0 e
        have n1 : ¬ j = M + d := fun q => h0 ⟨by omega, by rw [← q]; exact j2⟩
        have n2 : ¬ (d ≤ M ∧ j = M - d) := fun q => z2 ⟨q.1, by rw [← q.2]; exact j2⟩
        omega
      · rw [if_neg (by rw [e]; decide), if_neg (by rw [e]; decide)]
        exact ⟨M + d, (hz1 e).1, (hz1 e).2, rfl, rfl⟩
theorem near_e {μ ν : gs_M} {a k c o h M : Nat} (hk : k < 4) (hC : HC μ ν a k c o) (h8 : μ.1 a 8 = nI h) (hh : h ≤ 40) (hM : M < c) (hs : su (μ.1 (a + 1)) c < (c : Int) * h) : ∃ j, j < c ∧ (μ.1 (a + 1) j).toInt < h ∧ D_X1_nearestNotFull a (nI M) μ = some (nI j, μ) ∧ D_X12_nearest (nI k) (nI M) ν = some (nI j, ν) := by
  have ex : ∃ j, j < c ∧ (μ.1 (a + 1) j).toInt < h := by
    apply Classical.byContradiction
    intro hn
    have := su_ge (f := μ.1 (a + 1)) (h := (h : Int)) (n := c) (fun j hj => by
      apply Classical.byContradiction
      intro q
      exact hn ⟨j, hj, by omega⟩)
    omega
  obtain ⟨j, j1, j2⟩ := ex
  have hc12 := hC.1.2.1
  exact near_loop hk hC h8 hh hM c 0 4096 4096 (by omega) (by omega) (by omega) ⟨j, j1, j2, by omega⟩
