/-! tilt -/
theorem evN_m {c U j : Nat} (hc : 0 < c) (hj : j < c) : evN c (c * U) j = U := by
  unfold evN
  rw [if_pos hj, Nat.mul_div_cancel_left _ hc, Nat.mul_mod_right, if_neg (by omega), Nat.add_zero]
theorem tfill_e {μ : gs_M} {p : Nat → Int32} {a c o U : Nat} (hU : U ≤ 40) (hCF : CF (μ.1 a) p c 40 o 0 0) : ∃ μ', D_X1_fill a (nI c * nI U) 1 μ = some μ' ∧ (∀ j, j < c → μ'.1 (a + 1) j = nI U) ∧ (∀ j, c ≤ j → j < 12 → μ'.1 (a + 1) j = 0) ∧ (∀ b, b ≠ a → b ≠ a + 1 → μ'.1 b = μ.1 b) ∧ μ'.2 = μ.2 ∧ (∀ j, j ≠ 4 → j ≠ 5 → j ≠ 6 → j ≠ 7 → μ'.1 a j = μ.1 a j) ∧ μ'.1 a 4 = 0 ∧ μ'.1 a 5 = 0 ∧ μ'.1 a 6 = 0 ∧ μ'.1 a 7 = 0 := by
  have hCF' := hCF
  obtain ⟨c2, c12, o6, h40, f1, f8, -⟩ := hCF'
  have hcU : c * U ≤ 480 := Nat.mul_le_mul c12 hU
  obtain ⟨μ1, z1, z2, z3, z4, z5⟩ := fz_loop (a := a) (F := nI c * nI U) (t := 1) 12 0 4084 μ (by omega)
  obtain ⟨μ2, hμ2⟩ : ∃ μ2, μ2 = sI (sI μ1 a 4 0) a 5 0 := ⟨_, rfl⟩
  have e1 : μ2.1 a = upd (upd (μ.1 a) 4 0) 5 0 := by rw [hμ2, sI_s, sI_s, z4 a (by omega)]
  have e2 : ∀ b, b ≠ a → b ≠ a + 1 → μ2.1 b = μ.1 b := fun b h1 h2 => by rw [hμ2, sI_n _ _ _ h1, sI_n _ _ _ h1, z4 b h2]
  have e3 : ∀ j, j < 12 → μ2.1 (a + 1) j = 0 := fun j hj => by rw [hμ2, sI_n _ _ _ (by omega), sI_n _ _ _ (by omega), z2 j (by omega) hj]
  have e4 : μ2.2 = μ.2 := by rw [hμ2]; exact z5
  have g1 : μ2.1 a 1 = nI c := by rw [e1, pk_un (by decide), pk_un (by decide)]; exact f1
  obtain ⟨μ3, t1, t2, t3, t4, t5⟩ := cev_loop (F := c * U) c2 c12 hcU c 0 4096 μ2 (by omega) (by omega) g1
  obtain ⟨μ4, hμ4⟩ : ∃ μ4, μ4 = sI (sI μ3 a 6 0) a 7 0 := ⟨_, rfl⟩
  have d1 : μ4.1 a = upd (upd (μ3.1 a) 6 0) 7 0 := by rw [hμ4, sI_s, sI_s]
  have d2 : ∀ b, b ≠ a → μ4.1 b = μ3.1 b := fun b h1 => by rw [hμ4, sI_n _ _ _ h1, sI_n _ _ _ h1]
  refine ⟨μ4, ?_, fun j hj => by rw [d2 _ (by omega), t2 j (by omega) hj, evN_m (by omega) hj], fun j h1 h2 => by rw [d2 _ (by omega), t3 j (by omega), e3 j h2], fun b h1 h2 => by rw [d2 b h1, t4 b h2, e2 b h1 h2], by rw [hμ4]; exact t5.trans e4, fun j j4 j5 j6 j7 => by rw [d1, pk_un j7, pk_un j6, t4 a (by omega), e1, pk_un j5, pk_un j4], ?_, ?_, ?_, ?_⟩
  · unfold D_X1_fill
    refine Eq.trans z1 ?_
    show Bo_X1_fill_2 (L_X1_fill_2 4083) a (nI c * nI U) 1 12 μ1 = _
    unfold Bo_X1_fill_2 B_X1_fill_55 D_X1_clearCounts
    rw [if_pos (by decide), lt1, lt1, ← hμ2, gI_d, g1, if_neg (nI_nle (by omega) (by omega)), if_neg z10, pk_mul]
    have t1' : D_X1_layEvenly a (nI (c * U)) μ2 = some μ3 := t1
    rw [t1', bd0_s, lt1, lt1, bd0_s, ← hμ4]
  · rw [d1, pk_un (by decide), pk_un (by decide), t4 a (by omega), e1, pk_un (by decide), pk_us]
  · rw [d1, pk_un (by decide), pk_un (by decide), t4 a (by omega), e1, pk_us]
  · rw [d1, pk_un (by decide), pk_us]
  · rw [d1, pk_us]
theorem tst_loop {μ : gs_M} {a c : Nat} {sl fast most sh : Int32} (hc : c ≤ 12) (f1 : μ.1 a 1 = nI c) (hn : ∀ i, i + 1 < c → ¬ 0 < swV (swD (μ.1 (a + 1) i) (μ.1 (a + 1) (i + 1)) sh sl) fast ∨ (¬ swD (μ.1 (a + 1) i) (μ.1 (a + 1) (i + 1)) sh sl ≤ 0 ∧ ¬ 0 < swM (swV (swD (μ.1 (a + 1) i) (μ.1 (a + 1) (i + 1)) sh sl) fast) (μ.1 (a + 1) i) (most - μ.1 (a + 1) (i + 1)))) : ∀ (m i fu : Nat), i + 1 + m = c → m < fu → L_X1_sweep_45 fu a sl fast most 0 sh (-1) (nI i) μ = some (0, μ) := by
  intro m
  induction m with
  | zero =>
    intro i fu hi hf
    obtain ⟨fu, rfl⟩ : ∃ m, fu = m + 1 := ⟨fu - 1, by omega⟩
    show Bo_X1_sweep_45 _ _ _ _ _ _ _ _ _ _ = _
    unfold Bo_X1_sweep_45
    rw [gI_d, f1, nI_1, if_pos (nI_le (by omega) (by omega))]
    rfl
  | succ m ih =>
    intro i fu hi hf
    obtain ⟨fu, rfl⟩ : ∃ m, fu = m + 1 := ⟨fu - 1, by omega⟩
    have h1 : i + 1 < c := by omega
    refine Eq.trans ?_ (ih (i + 1) fu (by omega) (by omega))
    show Bo_X1_sweep_45 _ _ _ _ _ _ _ _ _ _ = _
    by_cases hv : 0 < swV (swD (μ.1 (a + 1) i) (μ.1 (a + 1) (i + 1)) sh sl) fast
    · obtain ⟨q1, q2⟩ := (hn i h1).resolve_left (fun q => q hv)
      obtain ⟨μ', t1, t2, -⟩ := cs_goR (q := L_X1_sweep_45 fu) (any := 0) (bb := -1) (most := most) hc h1 f1 rfl rfl hv q1 rfl
      rw [if_neg (nI_nm1 (by omega))] at t1 t2
      rw [t1, t2 q2, if_neg q2]
    · exact cs_stay hc h1 f1 hv
theorem trw_e {μ : gs_M} {a c : Nat} {slope : Int32} (hc : c ≤ 12) (hc2 : 2 ≤ c) (f1 : μ.1 a 1 = nI c) (f2 : μ.1 a 2 = 0) (f4 : μ.1 a 4 = 0) (hn : ∀ i, i + 1 < c → ¬ 0 < swV (swD (μ.1 (a + 1) i) (μ.1 (a + 1) (i + 1)) (100 - μ.1 a 4) (10 * slope)) (faN (μ.1 a 5) (μ.1 a 11) (μ.1 a 12) (μ.1 a 9) (μ.1 a 3)) ∨ (¬ swD (μ.1 (a + 1) i) (μ.1 (a + 1) (i + 1)) (100 - μ.1 a 4) (10 * slope) ≤ 0 ∧ ¬ 0 < swM (swV (swD (μ.1 (a + 1) i) (μ.1 (a + 1) (i + 1)) (100 - μ.1 a 4) (10 * slope)) (faN (μ.1 a 5) (μ.1 a 11) (μ.1 a 12) (μ.1 a 9) (μ.1 a 3))) (μ.1 (a + 1) i) (moN (μ.1 a 8) (μ.1 a 4) - μ.1 (a + 1) (i + 1)))) : D_X1_restWith a slope μ = some μ := by
  have hsw : D_X1_sweep a (10 * slope) (faN (μ.1 a 5) (μ.1 a 11) (μ.1 a 12) (μ.1 a 9) (μ.1 a 3)) (moN (μ.1 a 8) (μ.1 a 4)) μ = some (0, μ) := by
    unfold D_X1_sweep
    rw [lt1, gI_d, gI_d, f2, if_pos (by decide)]
    exact tst_loop hc f1 hn (c - 1) 0 4096 (by omega) (by omega)
  unfold D_X1_restWith
  rw [cfa_e, bd_s, cmo_e (by rw [f4]; decide) (by rw [f4]; decide), bd_s]
  show Bo_X1_restWith_16 (L_X1_restWith_16 4095) _ _ _ _ _ _ _ = _
  unfold Bo_X1_restWith_16
  rw [if_neg (by decide), if_neg z10, hsw, bd_s]
  show Bo_X1_restWith_16 (L_X1_restWith_16 4094) _ _ _ _ _ _ _ = _
  unfold Bo_X1_restWith_16
  rw [if_neg (by decide), if_pos rfl]
/-- an even box: what moves at which slope -/
theorem tev_e {μ : gs_M} {p : Nat → Int32} {a c o U R s : Nat} (hU1 : 1 ≤ U) (hU : U ≤ 40) (hs : s ≤ 60) (hR : R ≤ 20) (hCF : CF (μ.1 a) p c 40 o 0 0) (f9 : μ.1 a 9 = nI R) (f12 : 0 ≤ (μ.1 a 12).toInt) (f4 : μ.1 a 4 = 0) (f5 : μ.1 a 5 = 0) (f6 : μ.1 a 6 = 0) (f7 : μ.1 a 7 = 0) (hu : ∀ j, j < c → μ.1 (a + 1) j = nI U) (hu2 : ∀ j, c ≤ j → j < 12 → μ.1 (a + 1) j = 0) : ∃ (μ' : gs_M) (T : Nat), D_X1_restWith a (nI s) μ = some μ' ∧ μ'.1 a 6 + μ'.1 a 7 = nI T ∧ T ≤ 20000 ∧ (0 < T ↔ (R + 2 ≤ s ∧ U < 40)) ∧ (∀ b, b ≠ a → b ≠ a + 1 → μ'.1 b = μ.1 b) ∧ (∀ j, j ≠ 6 → j ≠ 7 → μ'.1 a j = μ.1 a j) ∧ μ'.2 = μ.2 := by
  have hCF' := hCF
  obtain ⟨c2, c12, o6, h40, f1, f8, f2, f3, ⟨p1, p2, p3, p4, p5⟩, b1, b2, b3, b4, b5⟩ := hCF'
  have hfa : faN (μ.1 a 5) (μ.1 a 11) (μ.1 a 12) (μ.1 a 9) (μ.1 a 3) = nI (10 * R) := by
    unfold faN
    rw [f5, Int32.zero_mul, if_pos (by rw [ti_le, show (0 : Int32).toInt = 0 by decide]; exact f12), f9, f3, show (3 : Int32) * 0 = 0 by decide, Int32.add_zero, show (10 : Int32) = nI 10 from rfl, pk_mul]
  have hmo : moN (μ.1 a 8) (μ.1 a 4) = nI 40 := by rw [f8, f4]; decide
  have hd : ∀ i, i + 1 < c → swD (μ.1 (a + 1) i) (μ.1 (a + 1) (i + 1)) (100 - μ.1 a 4) (10 * nI s) = nI (10 * s) := fun i hi => by
    unfold swD
    rw [hu i (by omega), hu (i + 1) hi, Int32.sub_self, Int32.zero_add, show (10 : Int32) = nI 10 from rfl, pk_mul]
  have hvI : (swV (nI (10 * s)) (nI (10 * R))).toInt = (((10 * s : Nat) : Int) - ((10 * R : Nat) : Int)).tdiv 20 := by
    unfold swV
    rw [if_pos (nI_pos' (by omega)), Int32.toInt_div, pk_sub_toInt (by omega) (by omega), show (20 : Int32).toInt = 20 by decide]
    have hsg : Int.sign 20 = 1 := rfl
    have : -100 ≤ (((10 * s : Nat) : Int) - ((10 * R : Nat) : Int)).tdiv 20 ∧ (((10 * s : Nat) : Int) - ((10 * R : Nat) : Int)).tdiv 20 ≤ 100 := by
      rw [Int.tdiv_eq_ediv]
      split <;> omega
    rw [ti_bm (by omega) (by omega)]
  have hv0 : (0 < swV (nI (10 * s)) (nI (10 * R))) ↔ R + 2 ≤ s := by
    rw [ti_lt, hvI, show (0 : Int32).toInt = 0 by decide]
    have hsg : Int.sign 20 = 1 := rfl
    rw [Int.tdiv_eq_ediv]
    split <;> omega
  by_cases hm : R + 2 ≤ s ∧ U < 40
  · -- something moves at the first place
    obtain ⟨hs2, hU40⟩ := hm
    obtain ⟨νv, hνv⟩ : ∃ νv : gs_M, νv = (fun b => if b = 83 then p else fun j => if j = 0 then nI c else if j = 1 then nI 40 else if j = 2 then nI o else if 28 ≤ j ∧ j < 28 + c then nI U else 0, fun _ _ => 0) := ⟨_, rfl⟩
    have v83 : νv.1 83 = p := by
      rw [hνv]
      rfl
    have v89 : νv.1 89 = fun j => if j = 0 then nI c else if j = 1 then nI 40 else if j = 2 then nI o else if 28 ≤ j ∧ j < 28 + c then nI U else 0 := by
      rw [hνv]
      rfl
    have hC : HC μ νv a 0 c o := by
      refine ⟨?_, fun i hi => ?_⟩
      · rw [v83, v89]
        unfold HF
        simp only [Nat.mul_zero, Nat.zero_add]
        simp only [Nat.reduceEqDiff, if_true, if_false]
        simp only [Nat.reduceLeDiff, false_and, if_false]
        refine ⟨c2, c12, o6, f1, trivial, trivial, f8, f2, f3, f4, f5, ⟨p1, p2, p3, p4, p5⟩, ?_, ?_, ?_, ?_, b3, b4, b5⟩
        · rw [f8]; decide
        · rw [f2]; decide
        · rw [f3]; decide
        · rw [f4]; decide
      · rw [v89]
        simp only [Nat.mul_zero, Nat.add_zero]
        rw [if_neg (by omega), if_neg (by omega), if_neg (by omega)]
        by_cases q : i < c
        · rw [if_pos (by omega), hu i q, nI_toInt (by omega)]
          exact ⟨rfl, by omega, by omega⟩
        · rw [if_neg (by omega), hu2 i (by omega) hi]
          exact ⟨rfl, by decide, by decide⟩
    have hsl : -600 ≤ (10 * nI s).toInt ∧ (10 * nI s).toInt ≤ 600 := by
      rw [show (10 : Int32) = nI 10 from rfl, pk_mul, nI_toInt (by omega)]; omega
    obtain ⟨n, hn⟩ : ∃ n, n = swM (swV (nI (10 * s)) (nI (10 * R))) (nI U) (nI 40 - nI U) := ⟨_, rfl⟩
    have hvp := hv0.mpr hs2
    have hn1 : 1 ≤ n.toInt ∧ n.toInt ≤ 60 ∧ n.toInt ≤ U ∧ n.toInt ≤ 40 - (U : Int) := by
      have g1 : (nI 40 - nI U).toInt = 40 - (U : Int) := pk_sub_toInt (by omega) (by omega)
      have g2 : 1 ≤ (swV (nI (10 * s)) (nI (10 * R))).toInt := by
        rw [ti_lt, show (0 : Int32).toInt = 0 by decide] at hvp; omega
      have g3 : (nI U).toInt = U := nI_toInt (by omega)
      rw [hn]
      unfold swM
      by_cases z1 : nI U < swV (nI (10 * s)) (nI (10 * R))
      · rw [if_pos z1]
        by_cases z2 : nI 40 - nI U < nI U
        · rw [if_pos z2]; rw [ti_lt] at z2; omega
        · rw [if_neg z2]; rw [ti_lt] at z2; omega
      · rw [if_neg z1]
        rw [ti_lt] at z1
        by_cases z2 : nI 40 - nI U < swV (nI (10 * s)) (nI (10 * R))
        · rw [if_pos z2]; rw [ti_lt] at z2; omega
        · rw [if_neg z2]; rw [ti_lt] at z2; omega
    have hnp : 0 < n := by rw [ti_lt, show (0 : Int32).toInt = 0 by decide]; omega
    obtain ⟨nn, nn1, nn2⟩ := ti_nat (x := n) (m := 60) (by omega) (by omega)
    have hbd : bdN c 0 = -1 := by unfold bdN; rw [if_pos (by decide)]
    obtain ⟨f0, hf0⟩ : ∃ f, 4096 = f + 1 := ⟨4095, rfl⟩
    obtain ⟨μ1, t1, t2, t3, t4, t5⟩ := cs_goR (q := L_X1_sweep_45 f0) (any := 0) (bb := bdN c (μ.1 a 2)) (most := moN (μ.1 a 8) (μ.1 a 4)) (sh := 100 - μ.1 a 4) (sl := 10 * nI s) (fast := faN (μ.1 a 5) (μ.1 a 11) (μ.1 a 12) (μ.1 a 9) (μ.1 a 3)) c12 (show 0 + 1 < c by omega) f1 rfl rfl (by rw [hd 0 (by omega), hfa]; exact hvp) (by rw [hd 0 (by omega)]; exact nI_nle (by omega) (by omega)) rfl
    have hn' : swM (swV (swD (μ.1 (a + 1) 0) (μ.1 (a + 1) (0 + 1)) (100 - μ.1 a 4) (10 * nI s)) (faN (μ.1 a 5) (μ.1 a 11) (μ.1 a 12) (μ.1 a 9) (μ.1 a 3))) (if nI 0 = bdN c (μ.1 a 2) then μ.1 (a + 1) 0 - μ.1 a 2 else μ.1 (a + 1) 0) (moN (μ.1 a 8) (μ.1 a 4) - μ.1 (a + 1) (0 + 1)) = n := by
      rw [hd 0 (by omega), hfa, f2, hbd, if_neg (by decide), hmo, hu 0 (by omega), hu (0 + 1) (by omega), hn]
    rw [hn'] at t1 t3
    rw [if_pos hnp] at t1
    obtain ⟨g1, g2⟩ := t3 hnp
    rw [hu 0 (by omega), hu (0 + 1) (by omega)] at g1
    have g3 : (nI U).toInt = U := nI_toInt (by omega)
    have i0 : (nI U - n).toInt = U - n.toInt := by rw [ti_sub (by omega) (by omega), g3]
    have i1 : (nI U + n).toInt = U + n.toInt := by rw [ti_add (by omega) (by omega), g3]
    obtain ⟨h1, -, -⟩ := hC.un (x := nI U - n) (show 0 < 4 by decide) (show 0 < 12 by decide) (by omega) (by omega)
    obtain ⟨h2, -, -⟩ := h1.un (x := nI U + n) (show 0 < 4 by decide) (show 1 < 12 by decide) (by omega) (by omega)
    obtain ⟨ν1, hν1⟩ : ∃ ν1, ν1 = sI (sI νv 89 (28 + 12 * 0 + 0) (nI U - n)) 89 (28 + 12 * 0 + 1) (nI U + n) := ⟨_, rfl⟩
    rw [← hν1] at h2
    have ja : ∀ j, j ≠ 6 → j ≠ 7 → μ1.1 a j = μ.1 a j := fun j j6 j7 => by rw [g2, pk_un j7, pk_un j6]
    have hC1 : HC μ1 ν1 a 0 c o := by
      obtain ⟨hF2, hU2⟩ := h2
      refine ⟨hF2.go (by decide) (fun j j6 j7 => ?_) (fun _ _ => rfl), hU2.go (fun i _ => ?_) (fun _ _ => rfl)⟩
      · rw [ja j j6 j7, sI_n _ _ _ (by omega), sI_n _ _ _ (by omega)]
      · rw [g1, sI_s, sI_s]
    have hsl : -600 ≤ (10 * nI s).toInt ∧ (10 * nI s).toInt ≤ 600 := by
      rw [show (10 : Int32) = nI 10 from rfl, pk_mul, nI_toInt (by omega)]; omega
    obtain ⟨μ2, ν2, any2, s1, -, s3, s4, s5, s6, s7⟩ := sw_loop (q21 := fun _ _ _ _ _ => none) (x5 := 0) (sl := 10 * nI s) (o := o) (show 0 < 4 by decide) hsl (c - 2) 1 f0 f0 μ1 ν1 1 (by omega) (by omega) (by omega) hC1 (Or.inr rfl) rfl rfl rfl rfl
    have hsw : D_X1_sweep a (10 * nI s) (faN (μ.1 a 5) (μ.1 a 11) (μ.1 a 12) (μ.1 a 9) (μ.1 a 3)) (moN (μ.1 a 8) (μ.1 a 4)) μ = some (any2, μ2) := by
      unfold D_X1_sweep
      rw [lt1, gI_d, gI_d, f2, if_pos (by decide)]
      unfold B_X1_sweep_39 B_X1_sweep_40
      rw [hf0]
      show Bo_X1_sweep_45 (L_X1_sweep_45 f0) _ _ _ _ _ _ _ _ _ = _
      rw [f2, hbd] at t1
      refine Eq.trans t1 ?_
      rw [ja 5 (by decide) (by decide), ja 11 (by decide) (by decide), ja 12 (by decide) (by decide), ja 9 (by decide) (by decide), ja 3 (by decide) (by decide), ja 8 (by decide) (by decide), ja 4 (by decide) (by decide), ja 2 (by decide) (by decide), f2, hbd] at s1
      exact s1
    have jb : ∀ j, j ≠ 6 → j ≠ 7 → μ2.1 a j = μ.1 a j := fun j j6 j7 => by rw [s5.2.1 j j6 j7, ja j j6 j7]
    obtain ⟨μ3, ν3, r1, -, r3, r4, r5, r6⟩ := re_loop (o := o) (sl := nI s) (show 0 < 4 by decide) (by rw [nI_toInt (by omega)]; omega) 11 1 f0 f0 μ2 ν2 any2 (by omega) (by omega) (by omega) s4 s3 rfl rfl
    rw [jb 5 (by decide) (by decide), jb 11 (by decide) (by decide), jb 12 (by decide) (by decide), jb 9 (by decide) (by decide), jb 3 (by decide) (by decide), jb 8 (by decide) (by decide), jb 4 (by decide) (by decide)] at r1
    have hrw : D_X1_restWith a (nI s) μ = some μ3 := by
      unfold D_X1_restWith
      rw [cfa_e, bd_s, cmo_e (by rw [f4]; decide) (by rw [f4]; decide), bd_s, hf0]
      show Bo_X1_restWith_16 (L_X1_restWith_16 f0) _ _ _ _ _ _ _ = _
      unfold Bo_X1_restWith_16
      rw [if_neg (by decide), if_neg z10, hsw, bd_s]
      exact r1
    obtain ⟨-, -, -, x1, x2, y1, y2, y3, y4⟩ := s7
    obtain ⟨-, -, -, x3, x4, y5, y6, y7, y8⟩ := r6
    refine ⟨μ3, nn + x1 + x3 + (x2 + x4), hrw, ?_, by omega, ⟨fun _ => ⟨hs2, hU40⟩, fun _ => ?_⟩, fun b b1 b2 => by rw [r4.1 b b1 b2, s5.1 b b1 b2, t4 b b1 b2], fun j j6 j7 => by rw [r4.2.1 j j6 j7, jb j j6 j7], r4.2.2.trans (s5.2.2.trans t5)⟩
    · rw [y7, y3, y8, y4, g2, pk_un (show 6 ≠ 7 by decide), pk_us, pk_us, f6, f7, Int32.zero_add, nn2, show (0 : Int32) + 0 = nI 0 from rfl]
      simp only [nI_add, Nat.zero_add]
    · have : n.toInt = nn := by rw [nn2, nI_toInt (by omega)]
      omega
  · refine ⟨μ, 0, ?_, by rw [f6, f7]; rfl, by omega, ⟨fun q => absurd q (by omega), fun q => absurd q hm⟩, fun _ _ _ => rfl, fun _ _ _ => rfl, rfl⟩
    refine trw_e c12 c2 f1 f2 f4 (fun i hi => ?_)
    rw [hd i hi, hfa, hmo, hu i (by omega), hu (i + 1) hi]
    by_cases hv : 0 < swV (nI (10 * s)) (nI (10 * R))
    · have hs2 := hv0.mp hv
      refine Or.inr ⟨nI_nle (by omega) (by omega), ?_⟩
      obtain rfl : U = 40 := by
        apply Classical.byContradiction
        intro q
        exact hm ⟨hs2, by omega⟩
      rw [Int32.sub_self]
      unfold swM
      by_cases z1 : (0 : Int32) < (if nI 40 < swV (nI (10 * s)) (nI (10 * R)) then nI 40 else swV (nI (10 * s)) (nI (10 * R)))
      · rw [if_pos z1]; decide
      · rw [if_neg z1]; exact z1
    · exact Or.inl hv
theorem CF.cp {f f' p : Nat → Int32} {c h o : Nat} {bo sa : Int32} (hC : CF f p c h o bo sa) (g : ∀ j, j ≠ 4 → j ≠ 5 → j ≠ 6 → j ≠ 7 → f' j = f j) : CF f' p c h o bo sa := by
  unfold CF at *
  rw [g 1 (by decide) (by decide) (by decide) (by decide), g 2 (by decide) (by decide) (by decide) (by decide), g 3 (by decide) (by decide) (by decide) (by decide), g 8 (by decide) (by decide) (by decide) (by decide), g 9 (by decide) (by decide) (by decide) (by decide), g 10 (by decide) (by decide) (by decide) (by decide), g 11 (by decide) (by decide) (by decide) (by decide), g 12 (by decide) (by decide) (by decide) (by decide), g 13 (by decide) (by decide) (by decide) (by decide)]
  exact hC
theorem tl_loop {p : Nat → Int32} {a c o U R : Nat} (hU1 : 1 ≤ U) (hU : U ≤ 40) (hR : R ≤ 20) : ∀ (m s fu : Nat) (μ : gs_M), s + m = 61 → m < fu → CF (μ.1 a) p c 40 o 0 0 → μ.1 a 9 = nI R → 0 ≤ (μ.1 a 12).toInt → ∃ (r : Int32) (μ' : gs_M), L_X11_tilt_77 fu (nI c) (nI U) a (nI s) μ = some (r, μ') ∧ (U < 40 → s ≤ R + 2 → r = nI (R + 2)) ∧ (U = 40 → r = -1) ∧ (∀ b, b ≠ a → b ≠ a + 1 → μ'.1 b = μ.1 b) ∧ μ'.2 = μ.2 := by
  intro m
  induction m with
  | zero =>
    intro s fu μ hs hf hCF f9 f12
    obtain ⟨fu, rfl⟩ : ∃ m, fu = m + 1 := ⟨fu - 1, by omega⟩
    refine ⟨-1, μ, ?_, fun _ q => absurd q (by omega), fun _ => rfl, fun _ _ _ => rfl, rfl⟩
    show Bo_X11_tilt_77 _ _ _ _ _ _ = _
    unfold Bo_X11_tilt_77
    rw [if_pos (show (60 : Int32) < nI s by rw [show (60 : Int32) = nI 60 from rfl]; exact nI_lt (by omega) (by omega))]
  | succ m ih =>
    intro s fu μ hs hf hCF f9 f12
    obtain ⟨fu, rfl⟩ : ∃ m, fu = m + 1 := ⟨fu - 1, by omega⟩
    have q60 : ¬ (60 : Int32) < nI s := by rw [show (60 : Int32) = nI 60 from rfl]; exact nI_nlt (by omega) (by omega)
    obtain ⟨μ1, a1, a2, a3, a4, a5, a6, a7, a8, a9, a10⟩ := tfill_e hU hCF
    obtain ⟨μ2, T, b1, b2, b3, b4, b5, b6, b7⟩ := tev_e (s := s) hU1 hU (by omega) hR (hCF.cp a6) (by rw [a6 9 (by decide) (by decide) (by decide) (by decide)]; exact f9) (by rw [a6 12 (by decide) (by decide) (by decide) (by decide)]; exact f12) a7 a8 a9 a10 a2 a3
    have jj : ∀ j, j ≠ 4 → j ≠ 5 → j ≠ 6 → j ≠ 7 → μ2.1 a j = μ.1 a j := fun j j4 j5 j6 j7 => by rw [b6 j j6 j7, a6 j j4 j5 j6 j7]
    by_cases z : T = 0
    · obtain ⟨r, μ', t1, t2, t3, t4, t5⟩ := ih (s + 1) fu μ2 (by omega) (by omega) (hCF.cp jj) (by rw [jj 9 (by decide) (by decide) (by decide) (by decide)]; exact f9) (by rw [jj 12 (by decide) (by decide) (by decide) (by decide)]; exact f12)
      refine ⟨r, μ', ?_, fun u1 u2 => t2 u1 ?_, t3, fun b c1 c2 => by rw [t4 b c1 c2, b5 b c1 c2, a4 b c1 c2], t5.trans (b7.trans a5)⟩
      · show Bo_X11_tilt_77 _ _ _ _ _ _ = _
        unfold Bo_X11_tilt_77
        rw [if_neg q60, a1, bd0_s, b1, bd0_s, gI_d, gI_d, b2, z, if_pos (by decide), nI_1]
        exact t1
      · have : ¬ (R + 2 ≤ s ∧ U < 40) := fun q => by have := b4.mpr q; omega
        omega
    · have hm := b4.mp (by omega)
      refine ⟨nI s, μ2, ?_, fun _ q => by rw [show s = R + 2 by omega], fun q => absurd hm.2 (by omega), fun b c1 c2 => by rw [b5 b c1 c2, a4 b c1 c2], b7.trans a5⟩
      show Bo_X11_tilt_77 _ _ _ _ _ _ = _
      unfold Bo_X11_tilt_77
      rw [if_neg q60, a1, bd0_s, b1, bd0_s, gI_d, gI_d, b2, if_neg (nI_nle (by omega) (by omega))]
theorem tm_loop {ν : gs_M} {o R : Nat} (ho : o < 7) (hR : R ≤ 20) (h0 : ν.1 83 (5 * o) = nI R) : ∀ (m s fu : Nat), s + m = R + 2 → m < fu → L_X12_tilt_44 fu (nI o) (nI s) ν = some (nI (R + 2), ν) := by
  have e : ∀ s, s ≤ 60 → ((10 * nI s - 10 * nI R < (20 : Int32)) ↔ s < R + 2) := fun s hs => by
    rw [show (10 : Int32) = nI 10 from rfl, pk_mul, pk_mul, ti_lt, pk_sub_toInt (by omega) (by omega), show (20 : Int32).toInt = 20 by decide]
    omega
  intro m
  induction m with
  | zero =>
    intro s fu hs hf
    obtain ⟨fu, rfl⟩ : ∃ m, fu = m + 1 := ⟨fu - 1, by omega⟩
    show Bo_X12_tilt_44 _ _ _ _ = _
    unfold Bo_X12_tilt_44
    rw [if_neg (show ¬ (60 : Int32) < nI s by rw [show (60 : Int32) = nI 60 from rfl]; exact nI_nlt (by omega) (by omega)), mpt_0 ho, bd_s, h0, if_neg (fun q => by have := (e s (by omega)).mp q; omega), show s = R + 2 by omega]
  | succ m ih =>
    intro s fu hs hf
    obtain ⟨fu, rfl⟩ : ∃ m, fu = m + 1 := ⟨fu - 1, by omega⟩
    show Bo_X12_tilt_44 _ _ _ _ = _
    unfold Bo_X12_tilt_44
    rw [if_neg (show ¬ (60 : Int32) < nI s by rw [show (60 : Int32) = nI 60 from rfl]; exact nI_nlt (by omega) (by omega)), mpt_0 ho, bd_s, h0, if_pos ((e s (by omega)).mpr (by omega)), nI_1]
    exact ih (s + 1) fu (by omega) (by omega)
theorem k_tilt {i : Nat} (y0 y1 y2 : Int32) : CALLS i (D_X11_tilt y0 y1 y2) (D_X12_tilt y0 y1 y2) := by
  intro μ ν0 h0
  obtain ⟨ν, hν, h, he⟩ := th_e h0
  obtain ⟨st, hU, hL, hI, hQ, hgo⟩ := rt_live h
  unfold D_X11_tilt D_X12_tilt
  rw [lt1, ← hν]
  have hU' := hU
  obtain ⟨u6, u1, u0, u2, u3⟩ := hU'
  rcases has_e (x := y0) u1 u6 with ⟨q1, q2⟩ | ⟨o, ho, rfl, q1⟩
  · exact fin_e (r := -1) h he (by rw [q1, bd_s, if_pos rfl]) (by rw [isU_e u2 q2, bd_s, if_pos rfl])
  rw [q1, bd_s, if_neg z10, isU_1 u2 ho u6, bd_s, if_neg z10, wi_e, bd_s, ii_e, bd_s, wi_e, bd_s, ii_e, bd_s]
  rcases inN_k y1 (lo := 2) (hi := 12) (L := 2) (H := 12) (by decide) (by decide) with z | ⟨z, a0, b0⟩
  · exact fin_e (r := -1) h he (by rw [z, if_pos rfl]) (by rw [z, if_pos rfl])
  rcases inN_k y2 (lo := 1) (hi := 40) (L := 1) (H := 40) (by decide) (by decide) with z1 | ⟨z1, a1, b1⟩
  · exact fin_e (r := -1) h he (by rw [z, if_neg z10, z1, if_pos rfl]) (by rw [z, if_neg z10, z1, if_pos rfl])
  rw [z, if_neg z10, if_neg z10, z1, if_neg z10, if_neg z10]
  obtain ⟨c, c1, rfl⟩ := ti_nat (x := y1) (m := 12) (by omega) (by omega)
  obtain ⟨U, U1, rfl⟩ := ti_nat (x := y2) (m := 40) (by omega) (by omega)
  rw [nI_toInt (by omega)] at a0 a1
  obtain ⟨r1, r2, R, ss, mm, ll, ww, b9, b10, b11, b12, w1, w9, p0, p1, p2, p3, p4⟩ := u3 o ho
  rw [show inb (0 : Int32) 4 = true from rfl, ck_t, show Int32.toNatClampNeg 0 = 0 from rfl, show 56 + 2 + 2 * 0 = 58 from rfl]
  have e1 := shape_e (μ := μ) (a := 58) (x := 40) c1
  obtain ⟨μ1, hμ1⟩ : ∃ μ1, μ1 = sI (sI μ 58 1 (nI c)) 58 8 40 := ⟨_, rfl⟩
  rw [← hμ1] at e1
  have T1 : TB μ μ1 := by rw [hμ1]; exact (TB.refl.s (by decide)).s (by decide)
  have e2 := take_e (a := 58) (by decide) (T1.u hU) ho
  obtain ⟨μ2, hμ2⟩ : ∃ μ2, μ2 = sI (sI (sI (sI (sI μ1 58 9 (ν.1 83 (5 * o))) 58 10 (ν.1 83 (5 * o + 1))) 58 11 (ν.1 83 (5 * o + 2))) 58 12 (ν.1 83 (5 * o + 3))) 58 13 (ν.1 83 (5 * o + 4)) := ⟨_, rfl⟩
  rw [← hμ2] at e2
  obtain ⟨μ3, hμ3⟩ : ∃ μ3, μ3 = sI (sI μ2 58 2 0) 58 3 0 := ⟨_, rfl⟩
  have ee : μ3.1 58 = upd (upd (upd (upd (upd (upd (upd (upd (upd (μ.1 58) 1 (nI c)) 8 40) 9 (ν.1 83 (5 * o))) 10 (ν.1 83 (5 * o + 1))) 11 (ν.1 83 (5 * o + 2))) 12 (ν.1 83 (5 * o + 3))) 13 (ν.1 83 (5 * o + 4))) 2 0) 3 0 := by
    rw [hμ3, sI_s, sI_s, hμ2, sI_s, sI_s, sI_s, sI_s, sI_s, hμ1, sI_s, sI_s]
  have hoff : ∀ b, b ≠ 58 → μ3.1 b = μ.1 b := fun b hb => by
    rw [hμ3, sI_n _ _ _ hb, sI_n _ _ _ hb, hμ2, sI_n _ _ _ hb, sI_n _ _ _ hb, sI_n _ _ _ hb, sI_n _ _ _ hb, sI_n _ _ _ hb, hμ1, sI_n _ _ _ hb, sI_n _ _ _ hb]
  have h32 : μ3.2 = μ.2 := by rw [hμ3, hμ2, hμ1]; rfl
  have hCF : CF (μ3.1 58) (ν.1 83) c 40 o 0 0 := by
    rw [ee]
    unfold CF
    simp only [upd]
    simp only [Nat.reduceEqDiff, if_true, if_false]
    refine ⟨by omega, c1, by omega, by omega, trivial, rfl, trivial, trivial, ⟨trivial, trivial, trivial, trivial, trivial⟩, by decide, by decide, ?_, ?_, ?_⟩
    · rw [p0, nI_toInt (by omega)]; omega
    · rw [p1, nI_toInt (by omega)]; omega
    · rw [p4, nI_toInt (by omega)]; omega
  have f9 : μ3.1 58 9 = nI R := by
    rw [ee]
    simp only [upd]
    simp only [Nat.reduceEqDiff, if_true, if_false]
    exact p0
  have f12 : 0 ≤ (μ3.1 58 12).toInt := by
    rw [ee]
    simp only [upd]
    simp only [Nat.reduceEqDiff, if_true, if_false]
    rw [p3, nI_toInt (by omega)]; omega
  obtain ⟨r, μ', t1, t2, t3, t4, t5⟩ := tl_loop (U := U) (by omega) U1 b9 61 0 4096 μ3 (by omega) (by omega) hCF f9 f12
  have ft : FT μ μ' := fun b hb => ⟨by rw [t4 b (by omega) (by omega), hoff b (by omega)], by rw [t5, h32]⟩
  refine tfin_e (r := r) h he ft BK.refl ?_ ?_
  · rw [e1, bd0_s, e2, bd0_s, lt1, lt1, ← hμ3]
    exact t1
  · by_cases zz : U = 40
    · rw [if_pos (by rw [zz]; rfl), t3 zz]
    · rw [if_neg (show ¬ nI U = (40 : Int32) from fun q => zz ((nI_eq (b := 40) (by omega) (by omega)).mp q)), t2 (by omega) (by omega)]
      exact tm_loop (by omega) b9 p0 (R + 2) 0 4096 (by omega) (by omega)
