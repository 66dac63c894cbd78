/-! ripens, slide, heel, image, back -/
theorem rip_loop {μ ν : gs_M} {a k c o : Nat} {x2 : Int32} (hk : k < 4) (hC : HC μ ν a k c o) : ∀ (m i fu fu2 : Nat), i + m = 1000 → m < fu → m < fu2 → ∃ r : Int32, L_X11_ripens_43 fu x2 a (nI i) μ = some (r, μ) ∧ L_X12_ripens_27 fu2 (nI k) x2 (nI i) ν = some (r, ν) := by
  obtain ⟨⟨hc2, hc12, ho6, f1, w0, w2, f8, f2, f3, f4, f5, ⟨p9, p10, p11, p12, p13⟩, -⟩, -⟩ := hC
  intro m
  induction m with
  | zero =>
    intro i fu fu2 hi hf hf2
    obtain ⟨fu, rfl⟩ : ∃ m, fu = m + 1 := ⟨fu - 1, by omega⟩
    obtain ⟨fu2, rfl⟩ : ∃ m, fu2 = m + 1 := ⟨fu2 - 1, by omega⟩
    refine ⟨-1, ?_, ?_⟩
    · show Bo_X11_ripens_43 _ _ _ _ _ = _
      unfold Bo_X11_ripens_43
      rw [if_pos (show (999 : Int32) < nI i by rw [show (999 : Int32) = nI 999 from rfl]; exact nI_lt (by omega) (by omega))]
    · show Bo_X12_ripens_27 _ _ _ _ _ = _
      unfold Bo_X12_ripens_27
      rw [if_pos (show (1000 : Int32) ≤ nI i by rw [show (1000 : Int32) = nI 1000 from rfl]; exact nI_le (by omega) (by omega))]
  | succ m ih =>
    intro i fu fu2 hi hf hf2
    obtain ⟨fu, rfl⟩ : ∃ m, fu = m + 1 := ⟨fu - 1, by omega⟩
    obtain ⟨fu2, rfl⟩ : ∃ m, fu2 = m + 1 := ⟨fu2 - 1, by omega⟩
    have h1 : ¬ (999 : Int32) < nI i := by rw [show (999 : Int32) = nI 999 from rfl]; exact nI_nlt (by omega) (by omega)
    have h2 : ¬ (1000 : Int32) ≤ nI i := by rw [show (1000 : Int32) = nI 1000 from rfl]; exact nI_ge (by omega) (by omega)
    have cl : L_X11_ripens_43 (fu + 1) x2 a (nI i) μ = if (ν.1 89 (7 * k + 6) + nI i * x2) * ν.1 83 (5 * o + 2) ≤ ν.1 83 (5 * o + 3) then L_X11_ripens_43 fu x2 a (nI (i + 1)) μ else some (nI i, μ) := by
      show Bo_X11_ripens_43 _ _ _ _ _ = _
      unfold Bo_X11_ripens_43 D_X1_isSoup
      rw [if_neg h1, gI_d, gI_d, gI_d, f5, p11, p12]
      by_cases q : (ν.1 89 (7 * k + 6) + nI i * x2) * ν.1 83 (5 * o + 2) ≤ ν.1 83 (5 * o + 3)
      · rw [if_pos q, if_pos q, bd_s, if_pos rfl, nI_1]
      · rw [if_neg q, if_neg q, bd_s, if_neg z10]
    have ml : L_X12_ripens_27 (fu2 + 1) (nI k) x2 (nI i) ν = if (ν.1 89 (7 * k + 6) + nI i * x2) * ν.1 83 (5 * o + 2) ≤ ν.1 83 (5 * o + 3) then L_X12_ripens_27 fu2 (nI k) x2 (nI (i + 1)) ν else some (nI i, ν) := by
      show Bo_X12_ripens_27 _ _ _ _ _ = _
      unfold Bo_X12_ripens_27
      rw [if_neg h2, mof_6 hk, bd_s, mof_2 hk, bd_s, w2, mpt_2 (show o < 7 by omega), bd_s, mof_2 hk, bd_s, w2, mpt_3 (show o < 7 by omega), bd_s, nI_1]
    rw [cl, ml]
    by_cases q : (ν.1 89 (7 * k + 6) + nI i * x2) * ν.1 83 (5 * o + 2) ≤ ν.1 83 (5 * o + 3)
    · rw [if_pos q, if_pos q]
      exact ih (i + 1) fu fu2 (by omega) (by omega) (by omega)
    · rw [if_neg q, if_neg q]
      exact ⟨nI i, rfl, rfl⟩
theorem k_ripens {i : Nat} (hi : i ≤ 4096) (y0 y1 : Int32) : CALLS i (D_X11_ripens y0 y1) (D_X12_ripens y0 y1) := by
  intro μ ν0 h0
  obtain ⟨ν, hν, h, he⟩ := th_e h0
  obtain ⟨st, hU, hL, hI, hQ, hgo⟩ := rt_live h
  have hS := hQ.1
  unfold D_X11_ripens D_X12_ripens 
  simp only [lt1, ← hν, wi_e, ii_e, bd_s]
  rcases rdy_e hL with ⟨rc, rm⟩ | ⟨rc, rm, n, hV, hz⟩
  · exact fin_e (r := -1) h he (by rw [rc, bd_s, if_pos rfl]) (by rw [op0_e rm, bd_s, if_pos rfl])
  have hV' := hV
  obtain ⟨⟨n1, n4, hs, h76, hl, hH⟩, -⟩ := hV'
  rcases hh_e (x := y0) n1 n4 hs h76 hl with ⟨e1, e2⟩ | ⟨k, hk, rfl, e1, e2⟩
  · exact fin_e (r := -1) h he (by rw [rc, bd_s, if_neg z10, e1, bd_s, if_pos rfl]) (by rw [op_e (μ := μ) (n := n) rm e2 (Or.inl rfl), bd_s, if_pos rfl])
  have hk4 : k < 4 := by omega
  rw [rc, bd_s, if_neg z10, e1, bd_s, if_neg z10, op_e (μ := μ) (n := n) rm e2 (Or.inr rfl), bd_s, if_neg z10]
  rcases inN_k y1 (lo := 1) (hi := 40) (L := 1) (H := 40) (by decide) (by decide) with z0 | ⟨z0, a0, b0⟩
  · exact fin_e (r := -1) h he (by rw [z0, if_pos rfl]) (by rw [z0, if_pos rfl])
  rw [z0, if_neg z10, if_neg z10]
  obtain ⟨c, o, ho, hC⟩ := hV.h hk
  obtain ⟨r, u1, u2⟩ := rip_loop (x2 := y1) hk4 hC 1000 0 4096 4096 (by omega) (by omega) (by omega)
  refine fin_e (r := r) h he ?_ u2
  rw [inb_n hk4 (by decide), ck_t, nI_clamp (by omega)]
  exact u1
theorem sld_loop {μ ν ν' : gs_M} {k c : Nat} (hk : k < 4) (hc : c ≤ 12) (f1 : μ.1 (26 + 2 + 2 * k) 1 = nI c) (w0 : ν.1 89 (7 * k) = nI c) (hpb : D_X12_putBack ν = some ν') (hu : ∀ j, j < 12 → μ.1 (26 + 2 + 2 * k + 1) j = ν.1 90 (28 + 12 * k + j) ∧ μ.1 (56 + 2 + 2 * k + 1) j = ν.1 89 (28 + 12 * k + j)) : ∀ (m i fu fu2 : Nat) (x : Int32), i + m = c → m < fu → m < fu2 → ∃ r : Int32, L_X11_slide_41 fu (nI k) x (nI i) μ = some (r, μ) ∧ L_X12_slide_39 fu2 (nI k) x (nI i) ν = some (r, ν') := by
  intro m
  induction m with
  | zero =>
    intro i fu fu2 x hi hf hf2
    obtain ⟨fu, rfl⟩ : ∃ m, fu = m + 1 := ⟨fu - 1, by omega⟩
    obtain ⟨fu2, rfl⟩ : ∃ m, fu2 = m + 1 := ⟨fu2 - 1, by omega⟩
    refine ⟨x, ?_, ?_⟩
    · show Bo_X11_slide_41 _ _ _ _ _ = _
      unfold Bo_X11_slide_41
      rw [inb_n hk (by decide), ck_t, nI_clamp (by omega), gI_d, f1, if_pos (nI_le (by omega) (by omega))]
    · show Bo_X12_slide_39 _ _ _ _ _ = _
      unfold Bo_X12_slide_39
      rw [mof_0 hk, bd_s, w0, if_pos (nI_le (by omega) (by omega)), hpb, bd0_s]
  | succ m ih =>
    intro i fu fu2 x hi hf hf2
    obtain ⟨fu, rfl⟩ : ∃ m, fu = m + 1 := ⟨fu - 1, by omega⟩
    obtain ⟨fu2, rfl⟩ : ∃ m, fu2 = m + 1 := ⟨fu2 - 1, by omega⟩
    obtain ⟨u1, u2⟩ := hu i (by omega)
    have cl : L_X11_slide_41 (fu + 1) (nI k) x (nI i) μ = if ν.1 90 (28 + 12 * k + i) ≤ ν.1 89 (28 + 12 * k + i) then L_X11_slide_41 fu (nI k) x (nI (i + 1)) μ else L_X11_slide_41 fu (nI k) (x ||| ((1 : Int32) <<< (nI i &&& 31))) (nI (i + 1)) μ := by
      show Bo_X11_slide_41 _ _ _ _ _ = _
      unfold Bo_X11_slide_41
      rw [inb_n hk (by decide), ck_t, nI_clamp (by omega), gI_d, f1, if_neg (nI_ge (show i < c by omega) (by omega)), ck_t, inb_n (show i < 12 by omega) (by decide), ck_t, ck_t, ck_t, nI_clamp (by omega), gI_d, gI_d, u1, u2, lt1, nI_1]
    have ml : L_X12_slide_39 (fu2 + 1) (nI k) x (nI i) ν = if ν.1 90 (28 + 12 * k + i) ≤ ν.1 89 (28 + 12 * k + i) then L_X12_slide_39 fu2 (nI k) x (nI (i + 1)) ν else L_X12_slide_39 fu2 (nI k) (x ||| ((1 : Int32) <<< (nI i &&& 31))) (nI (i + 1)) ν := by
      show Bo_X12_slide_39 _ _ _ _ _ = _
      unfold Bo_X12_slide_39
      rw [mof_0 hk, bd_s, w0, if_neg (nI_ge (show i < c by omega) (by omega)), mun_e hk (by omega), bd_s, mpl_e, bd_s, inb_n (show 28 + 12 * k + i < 81 by omega) (by decide), ck_t, nI_clamp (by omega), gI_d, lt1, lt1, Int32.or_zero, nI_1]
    rw [cl, ml]
    by_cases q : ν.1 90 (28 + 12 * k + i) ≤ ν.1 89 (28 + 12 * k + i)
    · rw [if_pos q, if_pos q]
      exact ih (i + 1) fu fu2 x (by omega) (by omega) (by omega)
    · rw [if_neg q, if_neg q]
      exact ih (i + 1) fu fu2 _ (by omega) (by omega) (by omega)
theorem k_slide {i : Nat} (hi : i ≤ 4096) (y0 y1 : Int32) : CALLS i (D_X11_slide y0 y1) (D_X12_slide y0 y1) := by
  intro μ ν0 h0
  obtain ⟨ν, hν, h, he⟩ := th_e h0
  obtain ⟨st, hU, hL, hI, hQ, hgo⟩ := rt_live h
  have hS := hQ.1
  unfold D_X11_slide D_X12_slide 
  simp only [lt1, ← hν, wi_e, ii_e, bd_s]
  rcases rdy_e hL with ⟨rc, rm⟩ | ⟨rc, rm, n, hV, hz⟩
  · exact fin_e (r := -1) h he (by rw [rc, bd_s, if_pos rfl]) (by rw [op0_e rm, bd_s, if_pos rfl])
  have hV' := hV
  obtain ⟨⟨n1, n4, hs, h76, hl, hH⟩, -⟩ := hV'
  rcases hh_e (x := y0) n1 n4 hs h76 hl with ⟨e1, e2⟩ | ⟨k, hk, rfl, e1, e2⟩
  · exact fin_e (r := -1) h he (by rw [rc, bd_s, if_neg z10, e1, bd_s, if_pos rfl]) (by rw [op_e (μ := μ) (n := n) rm e2 (Or.inl rfl), bd_s, if_pos rfl])
  have hk4 : k < 4 := by omega
  rw [rc, bd_s, if_neg z10, e1, bd_s, if_neg z10, op_e (μ := μ) (n := n) rm e2 (Or.inr rfl), bd_s, if_neg z10]
  rcases inN_k y1 (lo := 0) (hi := 40) (L := 0) (H := 40) (by decide) (by decide) with z0 | ⟨z0, a0, b0⟩
  · exact fin_e (r := -1) h he (by rw [z0, if_pos rfl]) (by rw [z0, if_pos rfl])
  rw [z0, if_neg z10, if_neg z10]
  obtain ⟨c, o, ho, hC⟩ := hV.h hk
  obtain ⟨μ2, ν1, ν2, t1, t2, t3, t4, t5, t6, t7, t8, t9⟩ := tryR_e hV hS ⟨a0, b0⟩ (by omega)
  obtain ⟨ν3, p1, p2⟩ := pb_e t7
  obtain ⟨c', o', ho', hC2⟩ := t5.h hk
  have hC' := hC
  obtain ⟨⟨hc2, hc12, ho6, f1, w0, -⟩, hu⟩ := hC'
  obtain ⟨-, hu2⟩ := hC2
  obtain ⟨r, u1, u2⟩ := sld_loop (μ := μ2) (ν := ν2) (c := c) hk4 hc12 (by rw [(t6 _ (by omega)).1]; exact f1) (by rw [t9 k hk]; exact w0) p1 (fun j hj => ⟨by rw [(t6 _ (by omega)).1, (hu j hj).1, t7.2.2.1 _ (by omega)], (hu2 j hj).1⟩) c 0 4096 4096 0 (by omega) (by omega) (by omega)
  refine tfin_e (r := r) h he t6 p2 ?_ ?_
  · rw [t1, bd_s]; exact u1
  · rw [t2, bd0_s, t3, bd0_s]; exact u2
/-- counts cleared -/
theorem clr_loop {v st n B : Nat} {x : Int32} :
    ∀ (m k fu : Nat) (μ ν : gs_M), k + m = n → VC μ v (ν.1 89) (ν.1 83) st n B → (∀ i, i < k → μ.1 (v + 2 + 2 * i) 6 = 0 ∧ μ.1 (v + 2 + 2 * i) 7 = 0) →
    ∃ μ' : gs_M, L_X10_heelBy_2 (fu + m) v x (nI k) μ = L_X10_heelBy_2 fu v x (nI n) μ' ∧ VC μ' v (ν.1 89) (ν.1 83) st n B ∧ FH v μ μ' ∧ (∀ i, i < n → μ'.1 (v + 2 + 2 * i) 6 = 0 ∧ μ'.1 (v + 2 + 2 * i) 7 = 0) := by
  intro m
  induction m with
  | zero =>
    intro k fu μ ν hk hV hz
    obtain rfl : k = n := by omega
    exact ⟨μ, rfl, hV, FH.refl, hz⟩
  | succ m ih =>
    intro k fu μ ν hk hV hz
    have hV2 := hV
    obtain ⟨n1, n4, hs, h76, hl, hH⟩ := hV2
    obtain ⟨a, ha⟩ : ∃ a, a = v + 2 + 2 * k := ⟨_, rfl⟩
    obtain ⟨μ1, hμ1⟩ : ∃ μ1, μ1 = sI (sI μ a 6 0) a 7 0 := ⟨_, rfl⟩
    have e1 : ∀ b, b ≠ a → μ1.1 b = μ.1 b := fun b h => by rw [hμ1, sI_n _ _ _ h, sI_n _ _ _ h]
    have e2 : μ1.1 a = upd (upd (μ.1 a) 6 0) 7 0 := by rw [hμ1, sI_s, sI_s]
    have e3 : μ1.2 = μ.2 := by rw [hμ1]; rfl
    have hV1 : VC μ1 v (ν.1 89) (ν.1 83) st n B := by
      refine ⟨n1, n4, by rw [e1 v (by omega)]; exact hs, h76, hl, fun i hi => ?_⟩
      refine (hH i hi).go (by omega) (fun j j6 j7 => ?_) (by rw [e1 _ (by omega)]) (fun _ _ => rfl)
      by_cases q : i = k
      · subst q
        rw [← ha, e2, pk_un j7, pk_un j6]
      · rw [e1 _ (by omega)]
    obtain ⟨μ', t1, t2, t3, t4⟩ := ih (k + 1) fu μ1 ν (by omega) hV1 (fun i hi => by
      by_cases q : i = k
      · subst q
        rw [← ha, e2]
        exact ⟨by rw [pk_un (by decide), pk_us], by rw [pk_us]⟩
      · rw [e1 _ (by omega)]
        exact hz i (by omega))
    refine ⟨μ', ?_, t2, FH.trans ⟨fun b hb => e1 b (by omega), e3, fun i hi => by
      by_cases q : i = k
      · subst q; rw [← ha, e2, pk_un (by decide), pk_un (by decide)]
      · rw [e1 _ (by omega)]⟩ t3, t4⟩
    refine Eq.trans ?_ t1
    show Bo_X10_heelBy_2 _ _ _ _ _ = _
    unfold Bo_X10_heelBy_2 D_X1_clearCounts
    simp only [gI_d, hs, if_neg (nI_ge (show k < n by omega) (by omega)), inb_n (show k < 4 by omega) (by omega), ck_t, nI_clamp (show k < 2 ^ 31 by omega), lt1, nI_1, bd0_s, ← ha, ← hμ1]
    rfl
theorem k_heel {i : Nat} (hi : i ≤ 4096) (y0 : Int32) : CALLS i (D_X11_heel y0) (D_X12_heel y0) := by
  intro μ ν0 h0
  obtain ⟨ν, hν, h, he⟩ := th_e h0
  obtain ⟨st, hU, hL, hI, hQ, hgo⟩ := rt_live h
  have hS := hQ.1
  unfold D_X11_heel D_X12_heel B_X11_heel_29
  simp only [lt1, ← hν, wi_e, ii_e, bd_s]
  rcases rdy_e hL with ⟨rc, rm⟩ | ⟨rc, rm, n, hV, hz⟩
  · exact fin_e (r := -1) h he (by simp only [rc, bd_s, if_true]) (by simp only [rm, bd_s, if_true])
  rcases inN_k y0 (lo := -40) (hi := 40) (L := -40) (H := 40) (by decide) (by decide) with z0 | ⟨z0, a0, b0⟩
  · exact fin_e (r := -1) h he (by simp only [rc, bd_s, if_neg z10, z0, if_true]) (by simp only [rm, bd_s, if_neg z10, z0, if_true])
  simp only [rc, rm, bd_s, if_neg z10, z0]
  have hV' := hV
  obtain ⟨hC, ht, hd, hlo, hlo2, hdb, hdr⟩ := hV'
  have n4 := hC.2.1
  obtain ⟨ν1, hν1⟩ : ∃ ν1, ν1 = sI (sI ν 78 37 0) 78 38 0 := ⟨_, rfl⟩
  have m1 : ν1.1 78 = upd (upd (ν.1 78) 37 0) 38 0 := by rw [hν1, sI_s, sI_s]
  have m2 : ∀ b, b ≠ 78 → ν1.1 b = ν.1 b := fun b h1 => by rw [hν1, sI_n _ _ _ h1, sI_n _ _ _ h1]
  have m3 : ν1.2 = ν.2 := by rw [hν1]; rfl
  have fs1 : FS ν ν1 := ⟨fun b h _ => m2 b h, fun j h1 h2 => by rw [m1, pk_un h2, pk_un h1], fun j _ => by rw [m2 89 (by decide)], m3⟩
  have hC1 : VC μ 26 (ν1.1 89) (ν1.1 83) st n (20 * i) := by rw [m2 89 (by decide), m2 83 (by decide)]; exact hC
  obtain ⟨f1, hf1⟩ : ∃ f, 4096 = (f + 1) + n := ⟨4095 - n, by omega⟩
  obtain ⟨μ1, s1, s2, s3, s4⟩ := clr_loop (x := y0) n 0 (f1 + 1) μ ν1 (by omega) hC1 (fun i hi => absurd hi (by omega))
  rw [← hf1] at s1
  have hS1 : SS μ1 ν1 := hS.w (by decide) s3.w fs1.r
  obtain ⟨r, l1, l2, -⟩ := lean_e s2 hS1
  have hG1 : GG μ1 26 ν1 n := ⟨by rw [m1, pk_un (by decide), pk_us, gR_zero (fun k hk => (s4 k hk).1)], by rw [m1, pk_us, gR_zero (fun k hk => (s4 k hk).2)]⟩
  obtain ⟨μ3, ν3, t1, t2, t3, t4, t5, t6, -⟩ := rall_e (μ := μ1) (y := r + y0) (fun fu k ν => L_X12_heel_44 fu (r + y0) k ν) (fun u2 => (bd (D_X12_lean u2) (fun v7 u6 => lt1 (if 0 ≤ v7 then v7 else 0 - v7) (fun v8 => if v8 < (gI u6 78 29) then (B_X12_heel_91 (79 : Int32) (0 : Int32) u6) else (B_X12_heel_91 (79 : Int32) (1 : Int32) u6))))) (fun fu k ν hk h => by
      show Bo_X12_heel_44 _ _ _ _ = _
      unfold Bo_X12_heel_44
      rw [mnw_76, bd_s, h, if_neg (nI_ge hk (by omega)), nI_1]) (fun fu ν h => by
      show Bo_X12_heel_44 _ _ _ _ = _
      unfold Bo_X12_heel_44
      rw [mnw_76, bd_s, h, if_pos (nI_le (Nat.le_refl _) (by omega))]) s2
  have hS3 : SS μ3 ν3 := hS1.w (by decide) t4.w t5.r
  obtain ⟨r5, l5, l6⟩ := tf_e t3 hS3
  obtain ⟨z, hz2⟩ : ∃ z : Int32, z = if abN r5 < ν3.1 78 29 then 0 else 1 := ⟨_, rfl⟩
  have hz01 : z = 0 ∨ z = 1 := by
    rw [hz2]
    by_cases h : abN r5 < ν3.1 78 29
    · rw [if_pos h]; exact Or.inl rfl
    · rw [if_neg h]; exact Or.inr rfl
  obtain ⟨μ5, hμ5⟩ : ∃ μ5, μ5 = sI μ3 26 4 z := ⟨_, rfl⟩
  obtain ⟨ν5, hν5⟩ : ∃ ν5, ν5 = sI ν3 89 79 z := ⟨_, rfl⟩
  have d1 : μ5.1 26 = upd (μ3.1 26) 4 z := by rw [hμ5, sI_s]
  have d2 : ∀ b, b ≠ 26 → μ5.1 b = μ3.1 b := fun b h => by rw [hμ5, sI_n _ _ _ h]
  have d3 : μ5.2 = μ3.2 := by rw [hμ5]; rfl
  have d4 : ν5.1 89 = upd (ν3.1 89) 79 z := by rw [hν5, sI_s]
  have d5 : ∀ b, b ≠ 89 → ν5.1 b = ν3.1 b := fun b h => by rw [hν5, sI_n _ _ _ h]
  have d6 : ν5.2 = ν3.2 := by rw [hν5]; rfl
  have hC5 : VC μ5 26 (ν5.1 89) (ν5.1 83) st n (20 * i) := by
    rw [d5 83 (by decide)]
    exact t3.go (by rw [d1, pk_un (by decide)]) (fun b h1 h2 => d2 b (by omega)) (fun j hj => by rw [d4, pk_un (by omega)]) (by rw [d4, pk_un (by decide)])
  have hG5 : GG μ5 26 ν5 n := by
    obtain ⟨g1, g2⟩ := t6 hG1
    refine ⟨?_, ?_⟩
    · rw [d5 78 (by decide), g1]; exact (gR_same (fun k hk => by rw [d2 _ (by omega)])).symm
    · rw [d5 78 (by decide), g2]; exact (gR_same (fun k hk => by rw [d2 _ (by omega)])).symm
  have hv4 : ∀ j, μ3.1 26 j = μ.1 26 j := fun j => by rw [t4.1 26 (by omega), s3.1 26 (by omega)]
  have hw4 : ∀ j, 76 ≤ j → ν3.1 89 j = ν.1 89 j := fun j hj => by rw [t5.2.2.1 j hj, m2 89 (by decide)]
  have hV5 : VR μ5 26 (ν5.1 89) (ν5.1 83) (ν5.2 78 33) st n (20 * i) := by
    refine ⟨hC5, ?_, ?_, ?_, ?_, ?_, ?_⟩
    · rw [d1, pk_un (by decide), hv4, d4, pk_un (by decide), hw4 77 (by omega)]; exact ht
    · rw [d1, pk_un (by decide), hv4, d4, pk_un (by decide), hw4 78 (by omega)]; exact hd
    · rw [d1, pk_us, d4, pk_us]
    · rw [d4, pk_us]; exact hz01
    · rw [d4, pk_un (by decide), hw4 78 (by omega)]; exact hdb
    · rw [d3, t4.2.1, s3.2.1, d6, t5.2.2.2, m3]; exact hdr
  refine lfin_e (r := ν5.1 78 37 + ν5.1 78 38) hgo he ((s3.w.trans t4.w).trans ⟨fun b hb => d2 b (by omega), fun b _ => by rw [d3]⟩) ((fs1.r.trans t5.r).trans ⟨fun b _ h => d5 b h, fun j _ _ => by rw [d5 78 (by decide)], fun _ _ => by rw [d6], fun _ _ => by rw [d6]⟩) hV5 (by omega) ?_ ?_
  · have e : D_X10_heelBy 26 y0 μ = some (ν5.1 78 37 + ν5.1 78 38, μ5) := by
      unfold D_X10_heelBy
      refine s1.trans ?_
      show Bo_X10_heelBy_2 _ _ _ _ _ = _
      unfold Bo_X10_heelBy_2
      rw [gI_d, s2.2.2.1, if_pos (nI_le (Nat.le_refl _) (by omega)), l1, bd_s, t1, bd0_s, l6, bd_s, ← hz2, show zb z = true from by rcases hz01 with h | h <;> rw [h] <;> rfl, ck_t, lt1, ← hμ5, wr_e hC5.2.2.1 n4, bd_s, wl_e hC5.2.2.1 n4, bd_s, hG5.1, hG5.2]
    rw [e, bd_s]
  · rw [← hν1, l2, bd_s]
    refine t2.trans ?_
    show bd (D_X12_lean ν3) _ = _
    rw [l5, bd_s, lt1, gI_d]
    unfold B_X12_heel_91
    unfold abN at hz2
    by_cases h : (if 0 ≤ r5 then r5 else 0 - r5) < ν3.1 78 29
    · rw [if_pos h] at hz2
      rw [if_pos h, hν5, hz2]
      rfl
    · rw [if_neg h] at hz2
      rw [if_neg h, hν5, hz2]
      rfl
theorem k_image {i : Nat} : CALLS i D_X11_image D_X12_image := by
  intro μ ν0 h0
  obtain ⟨ν, hν, h, he⟩ := th_e h0
  have h' := h
  obtain ⟨h1, ⟨st, h2, h3, h4⟩, ⟨sh, h5⟩, ⟨pl, h6⟩, h7, h8, h9, h10, h11, h12⟩ := h'
  unfold D_X11_image D_X12_image
  rw [lt1, ← hν, mnw_80, bd_s]
  rcases ild_e h3 with ⟨e1, e2⟩ | ⟨e1, e2, n, hV⟩
  · exact fin_e (r := -1) h he (by rw [e1, bd_s, if_pos rfl]) (by rw [if_pos e2])
  · rw [e1, bd_s, if_neg z10, if_neg (show ¬ ν.1 89 80 = 0 by rw [e2]; decide)]
    obtain ⟨μ', s1, s2, s3, -⟩ := bec_e (v1 := 36) (v2 := 26) (by decide) hV
    obtain ⟨ν1, t1, t2, t3, t4⟩ := cp_e (μ := ν) (a0 := 89) (a1 := 91) (by decide) ln_89 ln_91
    obtain ⟨ν', hν'⟩ : ∃ ν', ν' = sI (sL ν1 78 35 (ν.2 78 33)) 78 36 1 := ⟨_, rfl⟩
    have fc : ∀ b, b < 36 ∨ 46 ≤ b → μ'.1 b = μ.1 b := s3.1
    have fm : ∀ b, ¬ (b = 78 ∨ b = 91) → ν'.1 b = ν.1 b := fun b hb => by rw [hν', sI_n _ _ _ (by omega), sL_I, t3 b (by omega)]
    have f78 : ∀ j, j ≠ 36 → ν'.1 78 j = ν.1 78 j := fun j hj => by rw [hν', sI_s, pk_un hj, sL_I, t3 78 (by decide)]
    have f2 : ∀ j, j ≠ 35 → ν'.2 78 j = ν.2 78 j := fun j hj => by rw [hν', sI_L, sL_s, pk_uLn hj, t4]
    have f35 : ν'.2 78 35 = ν.2 78 33 := by rw [hν', sI_L, sL_s, pk_uLs]
    have f36 : ν'.1 78 36 = 1 := by rw [hν', sI_s, pk_us]
    have nw : cI μ' ν' st (20 * (i + 8)) := Or.inr ⟨f36, n, (s2.cm (fun _ _ _ => rfl) rfl (fun j hj => by rw [hν', sI_n _ _ _ (by decide), sL_I, t2 j hj]) (fm 83 (by decide)) f35).mono (by omega) (Nat.le_refl _)⟩
    refine ⟨ν.1 89 77, μ', ν', ?_, ?_, ⟨h1.go (fc 1 (by decide)) (fc 2 (by decide)) (f78 6 (by decide)) (fm 79 (by decide)), ⟨st, h2.go (fc 7 (by decide)) (fc 8 (by decide)) (fc 9 (by decide)) (f78 24 (by decide)) (fm 83 (by decide)), h3.go (by omega) (fun b _ _ => fc b (by omega)) (s3.2 26 (by decide)) (fun j _ => by rw [fm 89 (by decide)]) (fm 83 (by decide)) (f2 33 (by decide)), nw⟩, ⟨sh, h5.go (fc 10 (by decide)) (fc 11 (by decide)) (fc 12 (by decide)) (f78 25 (by decide)) (fm 84 (by decide)) (fm 86 (by decide))⟩, ⟨pl, h6.go (fc 13 (by decide)) (fc 14 (by decide)) (fc 15 (by decide)) (f78 26 (by decide)) (fm 85 (by decide)) (fm 87 (by decide))⟩, h7.go (fc 25 (by decide)) (fun j _ _ => f78 j (by omega)), h8.go (fc 66 (by decide)) (fc 67 (by decide)) (fc 68 (by decide)) (f78 41 (by decide)) (fm 92 (by decide)) (fm 93 (by decide)), h9.go (fc 69 (by decide)) (fc 70 (by decide)) (fc 71 (by decide)) (f78 48 (by decide)) (fm 96 (by decide)) (fm 97 (by decide)), h10.go (by rw [fc 0 (by decide)]) (fc 72 (by decide)) (f78 43 (by decide)) (fm 94 (by decide)), h11.go (fc 73 (by decide)) (fc 74 (by decide)) (f78 45 (by decide)) (fm 95 (by decide)), h12.go (by rw [fc 16 (by decide)]) (fun b _ _ => fc b (by omega)) (f78 7 (by decide)) (fm 80 (by decide)) (fm 81 (by decide))⟩, fun b hb => ⟨fc b (by omega), s3.2 b (by omega)⟩, eM.trans he (fun b hb => ⟨fm b (by omega), by rw [hν', sI_L, sL_n _ _ _ (by omega), t4]⟩)⟩
    · rw [s1, bd0_s, gI_d, s2.2.1]
    · rw [t1, bd0_s, lt1, lt1, gL_d, t4, ← hν', mnw_77, bd_s, fm 89 (by decide)]
theorem k_back {i : Nat} : CALLS i D_X11_back D_X12_back := by
  intro μ ν0 h0
  obtain ⟨ν, hν, h, he⟩ := th_e h0
  obtain ⟨st, hU, hL, hI, hQ, hgo⟩ := rt_live h
  unfold D_X11_back D_X12_back D_X10_isLoaded
  rw [lt1, ← hν, gI_d, gI_d]
  rcases hI with ⟨e1, e2⟩ | ⟨e2, n, hV⟩
  · exact fin_e (r := -1) h he (by rw [e1, if_pos (by decide), bd_s, if_pos rfl]) (by rw [if_pos e2])
  · have n1 := hV.1.1
    have n4 := hV.1.2.1
    obtain ⟨μ', s1, s2, s3, -⟩ := bec_e (v1 := 26) (v2 := 36) (by decide) hV
    obtain ⟨ν1, t1, t2, t3, t4⟩ := cp_e (μ := ν) (a0 := 91) (a1 := 89) (by decide) ln_91 ln_89
    obtain ⟨ν', hν'⟩ : ∃ ν', ν' = sL ν1 78 33 (ν.2 78 35) := ⟨_, rfl⟩
    have fr : FR ν ν' := ⟨fun b _ h => by rw [hν', sL_I, t3 b h], fun j _ _ => by rw [hν', sL_I, t3 78 (by decide)], fun b hb => by rw [hν', sL_n _ _ _ hb, t4], fun j hj => by rw [hν', sL_s, pk_uLn hj, t4]⟩
    have f33 : ν'.2 78 33 = ν.2 78 35 := by rw [hν', sL_s, pk_uLs]
    have hV2 : VR μ' 26 (ν'.1 89) (ν'.1 83) (ν'.2 78 33) st n (20 * i) := s2.cm (fun _ _ _ => rfl) rfl (fun j hj => by rw [hν', sL_I, t2 j hj]) (fr.1 83 (by decide) (by decide)) f33
    refine lfin_e (r := ν'.1 89 77) hgo he s3 fr hV2 (by omega) ?_ ?_
    · rw [hV.1.2.2.1, if_neg (nI_nle (by omega) (by omega)), bd_s, if_neg z10, s1, bd0_s, gI_d, hV2.2.1]
    · rw [if_neg (show ¬ ν.1 78 36 = 0 by rw [e2]; decide), t1, bd0_s, lt1, gL_d, t4, ← hν', mnw_77, bd_s]
