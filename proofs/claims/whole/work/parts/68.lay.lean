/-! filling: one class's run serves every row of the reference -/
def CF (f p : Nat → Int32) (c h o : Nat) (bo sa : Int32) : Prop := 2 ≤ c ∧ c ≤ 12 ∧ o < 6 ∧ h ≤ 40 ∧ f 1 = nI c ∧ f 8 = nI h ∧ f 2 = bo ∧ f 3 = sa ∧ (f 9 = p (5 * o) ∧ f 10 = p (5 * o + 1) ∧ f 11 = p (5 * o + 2) ∧ f 12 = p (5 * o + 3) ∧ f 13 = p (5 * o + 4)) ∧ (0 ≤ bo.toInt ∧ bo.toInt ≤ 40) ∧ (0 ≤ sa.toInt ∧ sa.toInt ≤ 3) ∧ (0 ≤ (f 9).toInt ∧ (f 9).toInt ≤ 20) ∧ (0 ≤ (f 10).toInt ∧ (f 10).toInt ≤ 30) ∧ (0 ≤ (f 13).toInt ∧ (f 13).toInt ≤ 9)
def RP (w : Nat → Int32) (k c h o : Nat) (bo sa : Int32) : Prop := w (7 * k) = nI c ∧ w (7 * k + 1) = nI h ∧ w (7 * k + 2) = nI o ∧ w (7 * k + 3) = bo ∧ w (7 * k + 4) = sa ∧ w (7 * k + 5) = 0 ∧ w (7 * k + 6) = 0 ∧ ∀ i, i < 12 → w (28 + 12 * k + i) = 0
theorem cf_hf {f f' p w : Nat → Int32} {k c h o : Nat} {bo sa : Int32} (h1 : CF f p c h o bo sa) (h2 : RP w k c h o bo sa) (g4 : f' 4 = 0) (g5 : f' 5 = 0) (g : ∀ j, j ≠ 4 → j ≠ 5 → j ≠ 6 → j ≠ 7 → f' j = f j) : HF f' w p k c o := by
  obtain ⟨c2, c12, o6, h40, f1, f8, f2, f3, ⟨p1, p2, p3, p4, p5⟩, b1, b2, b3, b4, b5⟩ := h1
  obtain ⟨w0, w1, w2, w3, w4, w5, w6, -⟩ := h2
  unfold HF
  rw [g 1 (by decide) (by decide) (by decide) (by decide), g 2 (by decide) (by decide) (by decide) (by decide), g 3 (by decide) (by decide) (by decide) (by decide), g 8 (by decide) (by decide) (by decide) (by decide), g 9 (by decide) (by decide) (by decide) (by decide), g 10 (by decide) (by decide) (by decide) (by decide), g 11 (by decide) (by decide) (by decide) (by decide), g 12 (by decide) (by decide) (by decide) (by decide), g 13 (by decide) (by decide) (by decide) (by decide), g4, g5, w0, w1, w2, w3, w4, w5, w6, f1, f8, f2, f3]
  refine ⟨c2, c12, o6, rfl, rfl, rfl, rfl, rfl, rfl, rfl, rfl, ⟨p1, p2, p3, p4, p5⟩, ?_, b1, b2, by decide, b3, b4, b5⟩
  rw [nI_toInt (by omega)]
  omega
theorem fill_e {μ ν : gs_M} {a k c h o F : Nat} {t bo sa : Int32} (hk : k < 4) (ht : t = 0 ∨ t = 1) (hF : F ≤ c * h) (hCF : CF (μ.1 a) (ν.1 83) c h o bo sa) (hRP : RP (ν.1 89) k c h o bo sa) : ∃ μ' ν', D_X1_fill a (nI F) t μ = some μ' ∧ D_X12_pours (nI k) (nI F) t ν = some ν' ∧ HC μ' ν' a k c o ∧ FM ν ν' k ∧ (∀ b, b ≠ a → b ≠ a + 1 → μ'.1 b = μ.1 b) ∧ μ'.2 = μ.2 ∧ (∀ j, j ≠ 4 → j ≠ 5 → j ≠ 6 → j ≠ 7 → μ'.1 a j = μ.1 a j) ∧ μ'.1 a 5 = 0 ∧ μ'.1 a 6 = 0 ∧ μ'.1 a 7 = 0 := by
  have hCF' := hCF
  obtain ⟨c2, c12, o6, h40, f1, f8, -⟩ := hCF'
  have hF2 : F ≤ 480 := Nat.le_trans hF (Nat.mul_le_mul c12 h40)
  obtain ⟨μ1, z1, z2, z3, z4, z5⟩ := fz_loop (a := a) (F := nI F) (t := t) 12 0 4084 μ (by omega)
  obtain ⟨μ2, hμ2⟩ : ∃ μ2, μ2 = sI (sI μ1 a 4 0) a 5 0 := ⟨_, rfl⟩
  have e1 : μ2.1 a = upd (upd (μ.1 a) 4 0) 5 0 := by rw [hμ2, sI_s, sI_s, z4 a (by omega)]
  have e2 : ∀ b, b ≠ a → b ≠ a + 1 → μ2.1 b = μ.1 b := fun b h1 h2 => by rw [hμ2, sI_n _ _ _ h1, sI_n _ _ _ h1, z4 b h2]
  have e3 : ∀ j, j < 12 → μ2.1 (a + 1) j = 0 := fun j hj => by rw [hμ2, sI_n _ _ _ (by omega), sI_n _ _ _ (by omega), z2 j (by omega) hj]
  have e4 : μ2.2 = μ.2 := by rw [hμ2]; exact z5
  have hF0 : HF (μ2.1 a) (ν.1 89) (ν.1 83) k c o := cf_hf hCF hRP (by rw [e1, pk_un (by decide), pk_us]) (by rw [e1, pk_us]) (fun j j4 j5 _ _ => by rw [e1, pk_un j5, pk_un j4])
  have hC0 : HC μ2 ν a k c o := ⟨hF0, fun j hj => by
    rw [e3 j hj, hRP.2.2.2.2.2.2.2 j hj]
    exact ⟨rfl, by decide, by decide⟩⟩
  have g8 : μ2.1 a 8 = nI h := by rw [e1, pk_un (by decide), pk_un (by decide)]; exact f8
  have g1 : μ2.1 a 1 = nI c := hF0.2.2.2.1
  have w0 : ν.1 89 (7 * k) = nI c := hRP.1
  -- the middle of it
  have mid : ∃ μ3 ν', (t = 0 → D_X1_pourOntoMiddle a (nI F) μ2 = some μ3) ∧ (t = 1 → D_X1_layEvenly a (nI F) μ2 = some μ3) ∧ D_X12_pours (nI k) (nI F) t ν = some ν' ∧ HC μ3 ν' a k c o ∧ FC μ2 μ3 a ∧ FM ν ν' k := by
    rcases ht with rfl | rfl
    · obtain ⟨μ3, ν', t1, t2, t3, t4, t5⟩ := pm_loop (o := o) hk hF hF2 h40 F 0 4096 4096 μ2 ν (by omega) (by omega) (by omega) hC0 g8 (su_zero (fun j hj => e3 j (by omega)))
      refine ⟨μ3, ν', fun _ => t1, fun q => absurd q (by decide), ?_, t3, t4, t5⟩
      unfold D_X12_pours
      rw [mof_0 hk, bd_s, w0]
      exact t2
    · obtain ⟨μ3, t1, t2, t3, t4, t5⟩ := cev_loop (F := F) c2 c12 hF2 c 0 4096 μ2 (by omega) (by omega) g1
      have ez : ∀ i, evN c 0 i = 0 := fun i => by
        unfold evN
        rw [Nat.zero_div, Nat.zero_mod]
        split <;> simp
      obtain ⟨ν', s1, s2, s3⟩ := mev_loop (F := F) hk c2 c12 hF2 F 0 4096 ν (by omega) (by omega) (fun i hi => by rw [hRP.2.2.2.2.2.2.2 i hi, ez i]; rfl)
      refine ⟨μ3, ν', fun q => absurd q (by decide), fun _ => t1, ?_, ⟨?_, fun j hj => ?_⟩, ⟨fun b _ h2 => t4 b h2, fun j _ _ => by rw [t4 a (by omega)], t5⟩, s3⟩
      · unfold D_X12_pours
        rw [mof_0 hk, bd_s, w0]
        exact s1
      · rw [s3.1 83 (by decide) (by decide)]
        exact hF0.go hk (fun j _ _ => by rw [t4 a (by omega)]) (fun j hj => s3.2.2.1 j (Or.inl (by omega)))
      · have eu : μ3.1 (a + 1) j = nI (evN c F j) := by
          by_cases q : j < c
          · exact t2 j (by omega) q
          · rw [t3 j (by omega), e3 j hj]
            unfold evN
            rw [if_neg q]; rfl
        have hb : evN c F j ≤ 41 := by
          unfold evN
          have : F / c ≤ h := by
            rw [Nat.div_le_iff_le_mul_add_pred (by omega)]
            omega
          split
          · split <;> omega
          · omega
        rw [eu, s2 j hj, nI_toInt (by omega)]
        exact ⟨rfl, by omega, by omega⟩
  obtain ⟨μ3, ν', m1, m2, m3, m4, m5, m6⟩ := mid
  obtain ⟨μ4, hμ4⟩ : ∃ μ4, μ4 = sI (sI μ3 a 6 0) a 7 0 := ⟨_, rfl⟩
  have d1 : μ4.1 a = upd (upd (μ3.1 a) 6 0) 7 0 := by rw [hμ4, sI_s, sI_s]
  have d2 : ∀ b, b ≠ a → μ4.1 b = μ3.1 b := fun b h1 => by rw [hμ4, sI_n _ _ _ h1, sI_n _ _ _ h1]
  refine ⟨μ4, ν', ?_, m3, ⟨m4.1.go hk (fun j j6 j7 => by rw [d1, pk_un j7, pk_un j6]) (fun _ _ => rfl), m4.2.go (fun i _ => by rw [d2 _ (by omega)]) (fun _ _ => rfl)⟩, m6, fun b h1 h2 => by rw [d2 b h1, m5.1 b h1 h2, e2 b h1 h2], by rw [hμ4]; exact m5.2.2.trans e4, fun j j4 j5 j6 j7 => by rw [d1, pk_un j7, pk_un j6, m5.2.1 j j6 j7, e1, pk_un j5, pk_un j4], by rw [d1, pk_un (by decide), pk_un (by decide), m5.2.1 5 (by decide) (by decide), e1, pk_us], by rw [d1, pk_un (by decide), pk_us], by rw [d1, pk_us]⟩
  unfold D_X1_fill
  refine Eq.trans z1 ?_
  show Bo_X1_fill_2 (L_X1_fill_2 4083) a (nI F) t 12 μ1 = _
  unfold Bo_X1_fill_2 B_X1_fill_55 D_X1_clearCounts
  rw [if_pos (by decide), lt1, lt1, ← hμ2, gI_d, g1, if_neg (nI_nle (by omega) (by omega))]
  rcases ht with rfl | rfl
  · rw [if_pos rfl, m1 rfl, bd0_s, lt1, lt1, bd0_s, ← hμ4]
  · rw [if_neg z10, m2 rfl, bd0_s, lt1, lt1, bd0_s, ← hμ4]
/-- a hold that lies filled: whatever the reference's scratch, it comes to the same -/
def PH (μ : gs_M) (a k c h o F : Nat) (t bo sa : Int32) (p : Nat → Int32) : Prop := μ.1 a 5 = 0 ∧ ∀ ν : gs_M, ν.1 83 = p → RP (ν.1 89) k c h o bo sa → ∃ ν', D_X12_pours (nI k) (nI F) t ν = some ν' ∧ HC μ ν' a k c o ∧ FM ν ν' k
theorem PH.go {μ μ' : gs_M} {a k c h o F : Nat} {t bo sa : Int32} {p : Nat → Int32} (hP : PH μ a k c h o F t bo sa p) (h1 : μ'.1 a = μ.1 a) (h2 : μ'.1 (a + 1) = μ.1 (a + 1)) : PH μ' a k c h o F t bo sa p := by
  refine ⟨by rw [h1]; exact hP.1, fun ν e1 e2 => ?_⟩
  obtain ⟨ν', t1, t2, t3⟩ := hP.2 ν e1 e2
  refine ⟨ν', t1, ?_, t3⟩
  unfold HC at *
  rw [h1, h2]
  exact t2
def rowW (k c h o : Nat) (bo sa : Int32) : Nat → Int32 := fun j => if j = 7 * k then nI c else if j = 7 * k + 1 then nI h else if j = 7 * k + 2 then nI o else if j = 7 * k + 3 then bo else if j = 7 * k + 4 then sa else 0
theorem rowW_e {k c h o : Nat} {bo sa : Int32} (hk : k < 4) : RP (rowW k c h o bo sa) k c h o bo sa := by
  unfold RP rowW
  refine ⟨if_pos rfl, ?_, ?_, ?_, ?_, ?_, ?_, fun i hi => ?_⟩
  · rw [if_neg (by omega), if_pos rfl]
  · rw [if_neg (by omega), if_neg (by omega), if_pos rfl]
  · rw [if_neg (by omega), if_neg (by omega), if_neg (by omega), if_pos rfl]
  · rw [if_neg (by omega), if_neg (by omega), if_neg (by omega), if_neg (by omega), if_pos rfl]
  · rw [if_neg (by omega), if_neg (by omega), if_neg (by omega), if_neg (by omega), if_neg (by omega)]
  · rw [if_neg (by omega), if_neg (by omega), if_neg (by omega), if_neg (by omega), if_neg (by omega)]
  · rw [if_neg (by omega), if_neg (by omega), if_neg (by omega), if_neg (by omega), if_neg (by omega)]
theorem ph_e {μ : gs_M} {p : Nat → Int32} {a k c h o F : Nat} {t bo sa : Int32} (hk : k < 4) (ht : t = 0 ∨ t = 1) (hF : F ≤ c * h) (hCF : CF (μ.1 a) p c h o bo sa) : ∃ μ', D_X1_fill a (nI F) t μ = some μ' ∧ PH μ' a k c h o F t bo sa p ∧ (∀ b, b ≠ a → b ≠ a + 1 → μ'.1 b = μ.1 b) ∧ μ'.2 = μ.2 ∧ (∀ j, j ≠ 4 → j ≠ 5 → j ≠ 6 → j ≠ 7 → μ'.1 a j = μ.1 a j) ∧ μ'.1 a 6 = 0 ∧ μ'.1 a 7 = 0 := by
  obtain ⟨νs, hνs⟩ : ∃ νs : gs_M, νs = (fun b => if b = 83 then p else rowW k c h o bo sa, fun _ _ => 0) := ⟨_, rfl⟩
  have q1 : νs.1 83 = p := by
    rw [hνs]
    show (if 83 = 83 then p else rowW k c h o bo sa) = p
    exact if_pos rfl
  have q2 : νs.1 89 = rowW k c h o bo sa := by
    rw [hνs]
    show (if 89 = 83 then p else rowW k c h o bo sa) = rowW k c h o bo sa
    exact if_neg (by decide)
  obtain ⟨μ', -, t1, -, -, -, t5, t6, t7, t8, t9, t10⟩ := fill_e (μ := μ) (ν := νs) (a := a) (bo := bo) (sa := sa) hk ht hF (by rw [q1]; exact hCF) (by rw [q2]; exact rowW_e hk)
  refine ⟨μ', t1, ⟨t8, fun ν e1 e2 => ?_⟩, t5, t6, t7, t9, t10⟩
  obtain ⟨μ'', ν', s1, s2, s3, s4, -⟩ := fill_e (μ := μ) (ν := ν) (a := a) (F := F) (t := t) hk ht hF (by rw [e1]; exact hCF) e2
  rw [t1] at s1
  cases s1
  exact ⟨ν', s2, s3, s4⟩
