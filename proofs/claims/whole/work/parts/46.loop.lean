/-- one place of a sweep, both sides -/
theorem sw_step {μ ν : gs_M} {a k c o i : Nat} {sl any fa mo sh bb x5 : Int32} {q : Nat → Int32 → Int32 → Int32 → Int32 → Int32 → Int32 → Int32 → gs_M → Option (Int32 × gs_M)} {q21 : Int32 → Int32 → Int32 → Int32 → gs_M → Option (gs_M)} {q39 : Int32 → Int32 → Int32 → Int32 → Int32 → gs_M → Option (gs_M)} (hk : k < 4) (hi : i + 1 < c) (hC : HC μ ν a k c o) (hsl : -600 ≤ sl.toInt ∧ sl.toInt ≤ 600) (hany : any = 0 ∨ any = 1)
    (hfa : fa = faN (μ.1 a 5) (μ.1 a 11) (μ.1 a 12) (μ.1 a 9) (μ.1 a 3)) (hmo : mo = moN (μ.1 a 8) (μ.1 a 4)) (hsh : sh = 100 - μ.1 a 4) (hbb : bb = bdN c (μ.1 a 2)) :
    ∃ (μ' ν' : gs_M) (any' : Int32), Bo_X1_sweep_45 q a sl fa mo any sh bb (nI i) μ = q a sl fa mo any' sh bb (nI (i + 1)) μ' ∧ Bo_X12_rests_39 q21 q39 (nI k) sl any x5 (nI i) ν = q39 (nI k) sl any' x5 (nI (i + 1)) ν' ∧ (any' = 0 ∨ any' = 1) ∧ HC μ' ν' a k c o ∧ FC μ μ' a ∧ FM ν ν' k ∧ GC 60 μ ν μ' ν' a c := by
  have hC2 := hC
  obtain ⟨hF, hU⟩ := hC2
  obtain ⟨hc2, hc12, ho, f1, w0, w2, f8, f2, f3, f4, f5, ⟨p9, p10, p11, p12, p13⟩, b8, b2, b3, b4, b9, b10, b13⟩ := hF
  obtain ⟨ui, ui1, ui2⟩ := hU i (by omega)
  obtain ⟨uj, uj1, uj2⟩ := hU (i + 1) (by omega)
  have hu : ∀ j, j < 12 → 0 ≤ (ν.1 89 (28 + 12 * k + j)).toInt ∧ (ν.1 89 (28 + 12 * k + j)).toInt ≤ 60 := fun j hj => by
    rw [← (hU j hj).1]; exact (hU j hj).2
  have hfb : 0 ≤ fa.toInt ∧ fa.toInt ≤ 290 := by rw [hfa]; exact faN_b b9 b3
  obtain ⟨d, hd⟩ : ∃ d, d = swD (μ.1 (a + 1) i) (μ.1 (a + 1) (i + 1)) sh sl := ⟨_, rfl⟩
  have hdb : -1200 ≤ d.toInt ∧ d.toInt ≤ 1200 := by rw [hd, hsh]; exact swD_b ⟨ui1, ui2⟩ ⟨uj1, uj2⟩ b4 hsl
  obtain ⟨vR, vL, vN⟩ := swV_b hdb hfb
  have h0 : (0 : Int32).toInt = 0 := by decide
  have hfneg : (-fa).toInt = -fa.toInt := ti_neg (by omega)
  have hmod : (ν.1 89 (28 + 12 * k + i) * (100 - ν.1 89 (7 * k + 5)) / 10 - ν.1 89 (28 + 12 * k + (i + 1)) * (100 - ν.1 89 (7 * k + 5)) / 10) + sl = d := by
    rw [hd, hsh, f4, ui, uj]; rfl
  have hfm : faN (ν.1 89 (7 * k + 6)) (ν.1 83 (5 * o + 2)) (ν.1 83 (5 * o + 3)) (ν.1 83 (5 * o)) (ν.1 89 (7 * k + 4)) = fa := by
    rw [hfa, f5, p11, p12, p9, f3]
  have hmod2 : Bo_X12_rests_39 q21 q39 (nI k) sl any x5 (nI i) ν = (if d ≤ fa then (if (-fa) ≤ d then (B_X12_rests_141 q21 q39 (nI k) sl any x5 (nI i) (0 : Int32) ν) else (bd (D_X12_moves (nI k) (nI (i + 1)) (nI i) (((-d) - fa) / (20 : Int32)) ν) (fun v19 u18 => B_X12_rests_141 q21 q39 (nI k) sl any x5 (nI i) v19 u18))) else (bd (D_X12_moves (nI k) (nI i) (nI (i + 1)) ((d - fa) / (20 : Int32)) ν) (fun v22 u21 => B_X12_rests_141 q21 q39 (nI k) sl any x5 (nI i) v22 u21))) := by
    unfold Bo_X12_rests_39
    simp only [mof_0 hk, bd_s, w0, nI_1, nI_leI (show c < 2 ^ 31 by omega) (show i + 1 < 2 ^ 31 by omega), show ¬ c ≤ i + 1 by omega, if_false, mta_e hk (show i < 12 by omega), mta_e hk (show i + 1 < 12 by omega), lt1, mfa_e hk (show o < 7 by omega) w2, hmod, hfm]
  have mk : ∀ (f t : Nat) (n y w : Int32), ((f = i ∧ t = i + 1) ∨ (f = i + 1 ∧ t = i)) → ((¬ d ≤ 0 ∧ f = i ∧ t = i + 1) ∨ (d ≤ 0 ∧ f = i + 1 ∧ t = i)) → w = swV d fa → 0 ≤ w.toInt →
      Bo_X12_rests_39 q21 q39 (nI k) sl any x5 (nI i) ν = bd (D_X12_moves (nI k) (nI f) (nI t) w ν) (fun v u => B_X12_rests_141 q21 q39 (nI k) sl any x5 (nI i) v u) →
      ∃ (μ' ν' : gs_M) (any' : Int32), Bo_X1_sweep_45 q a sl fa mo any sh bb (nI i) μ = q a sl fa mo any' sh bb (nI (i + 1)) μ' ∧ Bo_X12_rests_39 q21 q39 (nI k) sl any x5 (nI i) ν = q39 (nI k) sl any' x5 (nI (i + 1)) ν' ∧ (any' = 0 ∨ any' = 1) ∧ HC μ' ν' a k c o ∧ FC μ μ' a ∧ FM ν ν' k ∧ GC 60 μ ν μ' ν' a c := by
    intro f t n y w hft hft2 hw hw0 hmo3
    have hf12 : f < 12 := by omega
    have ht12 : t < 12 := by omega
    obtain ⟨n, y, hn, hy, hm, g0, g1, g2⟩ := may_e (ν := ν) (k := k) (f := f) (t := t) (i := i) (c := c) (w := w) hk hf12 ht12 (by omega) hft hc12 hc2 w0 hu (by rw [← f8]; exact b8) (by rw [← f4]; exact b4) (by rw [← f2]; exact b2) hw0
    rw [← f2, ← f8, ← f4, ← (hU f hf12).1, ← (hU t ht12).1, ← hbb, ← hmo] at hn
    obtain ⟨μ', c1, c2, c3, c4, c5⟩ := cs_go (q := q) (any := any) (fast := fa) (most := mo) (bb := bb) hc12 hi f1 hd hw hft2 hn
    obtain ⟨ν', m1, m2, m3, m4, m5, m6⟩ := mv_e hk hf12 ht12 (by omega) hm
    have hyn : y = ndN n := hy
    subst hyn
    obtain ⟨r1, r2, r3⟩ := sw_mv (i := i) hk hi hft hC g0 (by rw [(hU f hf12).1]; exact g1) (fun h => by rw [(hU t ht12).1]; exact g2 (ndN_p.mp h)) c2 c3 c4 c5 m2 m3 m4 m5 m6
    refine ⟨μ', ν', _, c1, ?_, ?_, r1, c5, r2, r3⟩
    · rw [hmo3, m1, bd_s]
      exact mr_141 hany g0
    · by_cases h : 0 < ndN n
      · rw [if_pos h]; exact Or.inr rfl
      · rw [if_neg h]; exact hany
  by_cases h1 : fa < d
  · obtain ⟨e1, e2, e3⟩ := vR h1
    refine mk i (i + 1) 0 0 ((d - fa) / 20) (Or.inl ⟨rfl, rfl⟩) (Or.inl ⟨e3, rfl, rfl⟩) e1.symm e2 ?_
    rw [hmod2, if_neg (by rw [ti_lt] at h1; rw [ti_le]; omega)]
  · by_cases h2 : d < -fa
    · obtain ⟨e1, e2, e3⟩ := vL h2
      refine mk (i + 1) i 0 0 ((-d - fa) / 20) (Or.inr ⟨rfl, rfl⟩) (Or.inr ⟨e3, rfl, rfl⟩) e1.symm e2 ?_
      rw [hmod2, if_pos (by rw [ti_lt] at h1; rw [ti_le]; omega), if_neg (by rw [ti_lt] at h2; rw [ti_le]; omega)]
    · refine ⟨μ, ν, any, cs_stay hc12 hi f1 (by rw [← hd]; exact vN h1 h2), ?_, hany, hC, FC.refl, FM.refl, GC.refl⟩
      rw [hmod2, if_pos (by rw [ti_lt] at h1; rw [ti_le]; omega), if_pos (by rw [ti_lt] at h2; rw [ti_le]; omega), mr_141 hany (by decide), if_neg (by decide)]
theorem FC.fa {μ μ' : gs_M} {a : Nat} (h : FC μ μ' a) : ∀ j, j ≠ 6 → j ≠ 7 → μ'.1 a j = μ.1 a j := h.2.1
/-- a sweep from place i on -/
theorem sw_loop {a k c o : Nat} {sl fa mo sh bb x5 : Int32} {q21 : Int32 → Int32 → Int32 → Int32 → gs_M → Option (gs_M)} (hk : k < 4) (hsl : -600 ≤ sl.toInt ∧ sl.toInt ≤ 600) :
    ∀ (n i fu fu2 : Nat) (μ ν : gs_M) (any : Int32), i + 1 + n = c → n < fu → n < fu2 → HC μ ν a k c o → (any = 0 ∨ any = 1) → fa = faN (μ.1 a 5) (μ.1 a 11) (μ.1 a 12) (μ.1 a 9) (μ.1 a 3) → mo = moN (μ.1 a 8) (μ.1 a 4) → sh = 100 - μ.1 a 4 → bb = bdN c (μ.1 a 2) →
    ∃ (μ' ν' : gs_M) (any' : Int32), L_X1_sweep_45 fu a sl fa mo any sh bb (nI i) μ = some (any', μ') ∧ L_X12_rests_39 q21 fu2 (nI k) sl any x5 (nI i) ν = q21 (nI k) sl any' (x5 + 1) ν' ∧ (any' = 0 ∨ any' = 1) ∧ HC μ' ν' a k c o ∧ FC μ μ' a ∧ FM ν ν' k ∧ GC (60 * n) μ ν μ' ν' a c := by
  intro n
  induction n with
  | zero =>
    intro i fu fu2 μ ν any hi hf hf2 hC hany _ _ _ _
    obtain ⟨fu, rfl⟩ : ∃ m, fu = m + 1 := ⟨fu - 1, by omega⟩
    obtain ⟨fu2, rfl⟩ : ∃ m, fu2 = m + 1 := ⟨fu2 - 1, by omega⟩
    have hC2 := hC
    obtain ⟨⟨hc2, hc12, ho, f1, w0, -⟩, -⟩ := hC2
    refine ⟨μ, ν, any, ?_, ?_, hany, hC, FC.refl, FM.refl, GC.refl⟩
    · show Bo_X1_sweep_45 _ _ _ _ _ _ _ _ _ _ = _
      unfold Bo_X1_sweep_45
      rw [gI_d, f1, nI_1, if_pos (nI_le (by omega) (by omega))]
      rcases hany with rfl | rfl <;> rfl
    · show Bo_X12_rests_39 _ _ _ _ _ _ _ _ = _
      unfold Bo_X12_rests_39
      rw [mof_0 hk, bd_s, w0, nI_1, if_pos (nI_le (by omega) (by omega))]
  | succ n ih =>
    intro i fu fu2 μ ν any hi hf hf2 hC hany e1 e2 e3 e4
    obtain ⟨fu, rfl⟩ : ∃ m, fu = m + 1 := ⟨fu - 1, by omega⟩
    obtain ⟨fu2, rfl⟩ : ∃ m, fu2 = m + 1 := ⟨fu2 - 1, by omega⟩
    obtain ⟨μ1, ν1, any1, s1, s2, s3, s4, s5, s6, s7⟩ := sw_step (q := L_X1_sweep_45 fu) (q21 := q21) (q39 := L_X12_rests_39 q21 fu2) (x5 := x5) hk (show i + 1 < c by omega) hC hsl hany e1 e2 e3 e4
    have g := s5.fa
    obtain ⟨μ', ν', any', t1, t2, t3, t4, t5, t6, t7⟩ := ih (i + 1) fu fu2 μ1 ν1 any1 (by omega) (by omega) (by omega) s4 s3 (by rw [e1, g 5 (by decide) (by decide), g 11 (by decide) (by decide), g 12 (by decide) (by decide), g 9 (by decide) (by decide), g 3 (by decide) (by decide)]) (by rw [e2, g 8 (by decide) (by decide), g 4 (by decide) (by decide)]) (by rw [e3, g 4 (by decide) (by decide)]) (by rw [e4, g 2 (by decide) (by decide)])
    exact ⟨μ', ν', any', s1.trans t1, s2.trans t2, t3, t4, s5.trans t5, s6.trans t6, (s7.trans t7).mono (by omega)⟩
theorem sw_e {μ ν : gs_M} {a k c o : Nat} {sl fa mo x5 : Int32} {q21 : Int32 → Int32 → Int32 → Int32 → gs_M → Option (gs_M)} (hk : k < 4) (hsl : -600 ≤ sl.toInt ∧ sl.toInt ≤ 600) (hC : HC μ ν a k c o) (e1 : fa = faN (μ.1 a 5) (μ.1 a 11) (μ.1 a 12) (μ.1 a 9) (μ.1 a 3)) (e2 : mo = moN (μ.1 a 8) (μ.1 a 4)) :
    ∃ (μ' ν' : gs_M) (any' : Int32), D_X1_sweep a sl fa mo μ = some (any', μ') ∧ L_X12_rests_39 q21 4096 (nI k) sl 0 x5 0 ν = q21 (nI k) sl any' (x5 + 1) ν' ∧ (any' = 0 ∨ any' = 1) ∧ HC μ' ν' a k c o ∧ FC μ μ' a ∧ FM ν ν' k ∧ GC 660 μ ν μ' ν' a c := by
  have hC2 := hC
  obtain ⟨⟨hc2, hc12, ho, f1, w0, -⟩, -⟩ := hC2
  obtain ⟨μ', ν', any', t1, t2, t3, t4, t5, t6, t7⟩ := sw_loop (q21 := q21) (x5 := x5) (o := o) hk hsl (c - 1) 0 4096 4096 μ ν 0 (by omega) (by omega) (by omega) hC (Or.inl rfl) e1 e2 rfl rfl
  refine ⟨μ', ν', any', ?_, t2, t3, t4, t5, t6, t7.mono (by omega)⟩
  rw [← t1]
  unfold D_X1_sweep bdN
  simp only [gI_d, lt1, f1]
  by_cases h1 : μ.1 a 2 ≤ 0
  · rw [if_pos h1, if_pos h1]; rfl
  · rw [if_neg h1, if_neg h1]
    by_cases h2 : nI c - nI c / 2 * 2 = 0
    · rw [if_pos h2, if_pos h2]; rfl
    · rw [if_neg h2, if_neg h2]; rfl
/-- sweeps from the s-th on -/
theorem re_loop {a k c o : Nat} {sl fa mo : Int32} (hk : k < 4) (hsl : -60 ≤ sl.toInt ∧ sl.toInt ≤ 60) :
    ∀ (n s fu fu2 : Nat) (μ ν : gs_M) (any : Int32), s + n = 12 → n < fu → n < fu2 → HC μ ν a k c o → (any = 0 ∨ any = 1) → fa = faN (μ.1 a 5) (μ.1 a 11) (μ.1 a 12) (μ.1 a 9) (μ.1 a 3) → mo = moN (μ.1 a 8) (μ.1 a 4) →
    ∃ (μ' ν' : gs_M), L_X1_restWith_16 fu a sl fa mo any (nI s) μ = some μ' ∧ L_X12_rests_21 fu2 (nI k) (10 * sl) any (nI s) ν = some ν' ∧ HC μ' ν' a k c o ∧ FC μ μ' a ∧ FM ν ν' k ∧ GC (660 * n) μ ν μ' ν' a c := by
  have c1 : (10 : Int32).toInt = 10 := by decide
  have hsl2 : -600 ≤ (10 * sl).toInt ∧ (10 * sl).toInt ≤ 600 := by
    rw [ti_mul (by rw [c1]; omega) (by rw [c1]; omega), c1]; omega
  intro n
  induction n with
  | zero =>
    intro s fu fu2 μ ν any hs hf hf2 hC hany _ _
    obtain ⟨fu, rfl⟩ : ∃ m, fu = m + 1 := ⟨fu - 1, by omega⟩
    obtain ⟨fu2, rfl⟩ : ∃ m, fu2 = m + 1 := ⟨fu2 - 1, by omega⟩
    obtain rfl : s = 12 := by omega
    refine ⟨μ, ν, ?_, ?_, hC, FC.refl, FM.refl, GC.refl⟩
    · show Bo_X1_restWith_16 _ _ _ _ _ _ _ _ = _
      unfold Bo_X1_restWith_16
      exact if_pos (by decide)
    · show Bo_X12_rests_21 _ _ _ _ _ _ = _
      unfold Bo_X12_rests_21
      exact if_pos (by decide)
  | succ n ih =>
    intro s fu fu2 μ ν any hs hf hf2 hC hany e1 e2
    obtain ⟨fu, rfl⟩ : ∃ m, fu = m + 1 := ⟨fu - 1, by omega⟩
    obtain ⟨fu2, rfl⟩ : ∃ m, fu2 = m + 1 := ⟨fu2 - 1, by omega⟩
    have hlt : ¬ (12 : Int32) ≤ nI s := nI_ge (a := s) (b := 12) (by omega) (by omega)
    rcases hany with rfl | rfl
    · refine ⟨μ, ν, ?_, ?_, hC, FC.refl, FM.refl, GC.refl⟩
      · show Bo_X1_restWith_16 _ _ _ _ _ _ _ _ = _
        unfold Bo_X1_restWith_16
        rw [if_neg hlt, if_pos rfl]
      · show Bo_X12_rests_21 _ _ _ _ _ _ = _
        unfold Bo_X12_rests_21
        rw [if_neg hlt, if_pos rfl]
    · obtain ⟨μ1, ν1, any1, s1, s2, s3, s4, s5, s6, s7⟩ := sw_e (q21 := L_X12_rests_21 fu2) (x5 := nI s) hk hsl2 hC e1 e2
      have g := s5.fa
      obtain ⟨μ', ν', t1, t2, t4, t5, t6, t7⟩ := ih (s + 1) fu fu2 μ1 ν1 any1 (by omega) (by omega) (by omega) s4 s3 (by rw [e1, g 5 (by decide) (by decide), g 11 (by decide) (by decide), g 12 (by decide) (by decide), g 9 (by decide) (by decide), g 3 (by decide) (by decide)]) (by rw [e2, g 8 (by decide) (by decide), g 4 (by decide) (by decide)])
      refine ⟨μ', ν', ?_, ?_, t4, s5.trans t5, s6.trans t6, (s7.trans t7).mono (by omega)⟩
      · show Bo_X1_restWith_16 _ _ _ _ _ _ _ _ = _
        unfold Bo_X1_restWith_16
        rw [if_neg hlt, if_neg (by decide), s1, bd_s, nI_1]
        exact t1
      · show Bo_X12_rests_21 _ _ _ _ _ _ = _
        unfold Bo_X12_rests_21
        rw [if_neg hlt, if_neg (by decide), s2, nI_1]
        exact t2
/-- held between -60 and 60 -/
def hsN (y : Int32) : Int32 := if y ≤ 60 then (if -60 ≤ y then y else -60) else 60
theorem hsN_b (y : Int32) : -60 ≤ (hsN y).toInt ∧ (hsN y).toInt ≤ 60 := by
  have c1 : (60 : Int32).toInt = 60 := by decide
  have c2 : (-60 : Int32).toInt = -60 := by decide
  unfold hsN
  by_cases h1 : y ≤ 60
  · rw [if_pos h1]
    rw [ti_le, c1] at h1
    by_cases h2 : -60 ≤ y
    · rw [if_pos h2]; rw [ti_le, c2] at h2; omega
    · rw [if_neg h2, c2]; omega
  · rw [if_neg h1, c1]; omega
theorem hsN_m (y : Int32) : (if (-60 : Int32) < (if y < 60 then y else 60) then (if y < 60 then y else 60) else (-60 : Int32)) = hsN y := by
  have c1 : (60 : Int32).toInt = 60 := by decide
  have c2 : (-60 : Int32).toInt = -60 := by decide
  unfold hsN
  by_cases h1 : y ≤ 60
  · have h3 : (if y < 60 then y else (60 : Int32)) = y := by
      by_cases h : y < 60
      · rw [if_pos h]
      · rw [if_neg h]
        apply ti_ext
        rw [ti_le] at h1
        rw [ti_lt] at h
        omega
    rw [if_pos h1, h3]
    by_cases h2 : -60 ≤ y
    · rw [if_pos h2]
      by_cases h : -60 < y
      · rw [if_pos h]
      · rw [if_neg h]
        apply ti_ext
        rw [ti_le] at h2
        rw [ti_lt] at h
        omega
    · rw [if_neg h2]
      rw [ti_le] at h2
      rw [if_neg (by rw [ti_lt]; omega)]
  · rw [if_neg h1]
    rw [ti_le] at h1
    rw [if_neg (show ¬ y < 60 by rw [ti_lt]; omega), if_pos (by decide)]
theorem hsN_c (y : Int32) (μ : gs_M) : D_X11_heldSlope y μ = some (hsN y, μ) := by
  unfold D_X11_heldSlope D_X11_held hsN
  by_cases h1 : y ≤ 60
  · rw [if_pos h1, if_pos h1]
    by_cases h2 : -60 ≤ y
    · rw [if_pos h2, bd_s, if_pos h2]
    · rw [if_neg h2, bd_s, if_neg h2]
  · rw [if_neg h1, if_neg h1, bd_s]
/-- RESTS: class and reference -/
theorem rest_e {μ ν : gs_M} {a k c o : Nat} {y : Int32} (hk : k < 4) (hC : HC μ ν a k c o) : ∃ (μ' ν' : gs_M), D_X1_restWith a (hsN y) μ = some μ' ∧ D_X12_rests (nI k) y ν = some ν' ∧ HC μ' ν' a k c o ∧ FC μ μ' a ∧ FM ν ν' k ∧ GC 7920 μ ν μ' ν' a c := by
  have hC2 := hC
  obtain ⟨⟨hc2, hc12, ho, f1, w0, w2, f8, f2, f3, f4, f5, p, b8, b2, b3, b4, b9, b10, b13⟩, -⟩ := hC2
  obtain ⟨μ', ν', t1, t2, t3⟩ := re_loop (o := o) hk (hsN_b y) 12 0 4096 4096 μ ν 1 (by omega) (by omega) (by omega) hC (Or.inr rfl) rfl rfl
  refine ⟨μ', ν', ?_, ?_, t3⟩
  · unfold D_X1_restWith
    rw [cfa_e, bd_s, cmo_e b4.1 b4.2, bd_s]
    exact t1
  · unfold D_X12_rests
    simp only [lt1, hsN_m]
    exact t2
