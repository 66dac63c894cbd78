/-! more calls on her -/
theorem voyT_e {μ ν : gs_M} {st n B D : Nat} {sea : Int32} (hV : VR μ 26 (ν.1 89) (ν.1 83) (ν.2 78 33) st n B) (hS : SS μ ν) (hsea : 0 ≤ sea.toInt ∧ sea.toInt ≤ 30) (hD : D < 100) (hB : B < 1000000) :
    ∃ (μ1 μ2 ν1 ν2 : gs_M), D_X10_become 56 26 μ = some μ1 ∧ D_X12_keeps ν = some ν1 ∧ D_X10_sail 56 sea (nI D) μ1 = some μ2 ∧ D_X12_voyage sea (nI D) ν1 = some ν2 ∧ VR μ2 56 (ν2.1 89) (ν2.1 83) (ν2.2 78 33) st n (B + 160 * D) ∧ FT μ μ1 ∧ FT μ μ2 ∧ TK ν ν1 ∧ TK ν ν2 ∧ SS μ2 ν2 := by
  obtain ⟨μ1, ν1, s1, s2, s3, s4, s5, s6, s7⟩ := tr_e (v := 56) (by decide) hV
  have ft1 := s4.ft (by decide) (by decide)
  have hS1 := hS.tk ft1 s5
  obtain ⟨μ2, ν2, t1, t2, t3, t4, t5⟩ := voy_e (D := D) (by decide) hsea (by omega) hB s3 hS1
  exact ⟨μ1, μ2, ν1, ν2, s1, s2, t1, t2, t3, ft1, ft1.trans (t4.ft (by decide) (by decide)), s5, s5.r t5, hS1.w (by decide) t4 t5⟩
theorem VR.dr {μ ν : gs_M} {v st n B : Nat} {z : Int64} (h : VR μ v (ν.1 89) (ν.1 83) (ν.2 78 33) st n B) : VR (sL μ v 5 z) v ((sL ν 78 33 z).1 89) ((sL ν 78 33 z).1 83) ((sL ν 78 33 z).2 78 33) st n B := by
  obtain ⟨hC, ht, hdy, hlo, hlo2, hdb, hdr⟩ := h
  refine ⟨hC.go rfl (fun _ _ _ => rfl) (fun _ _ => rfl) rfl, ht, hdy, hlo, hlo2, hdb, ?_⟩
  rw [sL_s, pk_uLs, sL_s, pk_uLs]
theorem TK.dr {ν0 ν : gs_M} {z : Int64} (h : TK ν0 ν) : TK ν0 (sL ν 78 33 z) := by
  obtain ⟨h1, h2, h3, h4, h5, h6⟩ := h
  exact ⟨h1, h2, h3, by rw [sL_s, pk_uLn (by decide)]; exact h4, fun b hb => by rw [sL_n _ _ _ hb]; exact h5 b hb, fun j j1 j2 => by rw [sL_s, pk_uLn j1]; exact h6 j j1 j2⟩
theorem voyS_e {μ ν : gs_M} {st n B D : Nat} {sea : Int32} (z : Int64) (hV : VR μ 26 (ν.1 89) (ν.1 83) (ν.2 78 33) st n B) (hS : SS μ ν) (hsea : 0 ≤ sea.toInt ∧ sea.toInt ≤ 30) (hD : D < 100) (hB : B < 1000000) :
    ∃ (μ1 μ2 ν1 ν2 : gs_M), D_X10_become 56 26 μ = some μ1 ∧ D_X12_keeps ν = some ν1 ∧ D_X10_sail 56 sea (nI D) (sL μ1 56 5 z) = some μ2 ∧ D_X12_voyage sea (nI D) (sL ν1 78 33 z) = some ν2 ∧ VR μ2 56 (ν2.1 89) (ν2.1 83) (ν2.2 78 33) st n (B + 160 * D) ∧ FT μ μ2 ∧ TK ν ν2 ∧ SS μ2 ν2 := by
  obtain ⟨μ1, ν1, s1, s2, s3, s4, s5, s6, s7⟩ := tr_e (v := 56) (by decide) hV
  have ft1 := s4.ft (by decide) (by decide)
  have ft2 : FT μ1 (sL μ1 56 5 z) := fun b hb => ⟨rfl, sL_n _ _ _ (by omega)⟩
  have hS1 : SS (sL μ1 56 5 z) (sL ν1 78 33 z) := hS.tk (ft1.trans ft2) s5.dr
  obtain ⟨μ2, ν2, t1, t2, t3, t4, t5⟩ := voy_e (D := D) (by decide) hsea (by omega) hB (s3.dr (z := z)) hS1
  exact ⟨μ1, μ2, ν1, ν2, s1, s2, t1, t2, t3, (ft1.trans ft2).trans (t4.ft (by decide) (by decide)), s5.dr.r t5, hS1.w (by decide) t4 t5⟩
/-- soonest -/
theorem soon_loop {st n : Nat} {sea : Int32} (hsea : 0 ≤ sea.toInt ∧ sea.toInt ≤ 30) (ν0 : gs_M) : ∀ (m k fu fu2 B : Nat) (μ ν : gs_M), k + m = 31 → m < fu → m + 1 < fu2 → B + 160 * m < 1000000 → VR μ 56 (ν.1 89) (ν.1 83) (ν.2 78 33) st n B → SS μ ν → TK ν0 ν → ν.1 89 79 = 0 → ∃ (r : Int32) (μ' ν' : gs_M), L_X11_soonest_32 fu sea (nI k) μ = some (r, μ') ∧ L_X12_soonest_32 fu2 sea (-1) (nI k) ν = some (r, ν') ∧ FT μ μ' ∧ BK ν0 ν' := by
  intro m
  induction m with
  | zero =>
    intro k fu fu2 B μ ν hk hf hf2 hB hV hS hT hz
    obtain ⟨fu, rfl⟩ : ∃ m, fu = m + 1 := ⟨fu - 1, by omega⟩
    obtain ⟨fu2, rfl⟩ : ∃ m, fu2 = m + 1 := ⟨fu2 - 1, by omega⟩
    have h30 : (30 : Int32) < nI k := by
      rw [show (30 : Int32) = nI 30 from rfl]
      exact nI_lt (by omega) (by omega)
    obtain ⟨ν3, p1, p2⟩ := pb_e hT
    refine ⟨-1, μ, ν3, ?_, ?_, FT.refl, p2⟩
    · show Bo_X11_soonest_32 _ _ _ _ = _
      unfold Bo_X11_soonest_32
      rw [if_pos h30]
    · show Bo_X12_soonest_32 _ _ _ _ _ = _
      unfold Bo_X12_soonest_32 B_X12_soonest_70
      rw [if_pos h30, p1, bd0_s]
  | succ m ih =>
    intro k fu fu2 B μ ν hk hf hf2 hB hV hS hT hz
    obtain ⟨fu, rfl⟩ : ∃ m, fu = m + 1 := ⟨fu - 1, by omega⟩
    obtain ⟨fu2, rfl⟩ : ∃ m, fu2 = m + 1 + 1 := ⟨fu2 - 2, by omega⟩
    have h30 : ¬ (30 : Int32) < nI k := by
      rw [show (30 : Int32) = nI 30 from rfl]
      exact nI_nlt (by omega) (by omega)
    obtain ⟨μ1, ν1, t1, t2, t3, t4, t5⟩ := day1_e (by decide) hsea (by omega) hV hS hz
    have ft := t4.ft (by decide) (by decide)
    have hlo := t3.2.2.2.1
    have hlo2 := t3.2.2.2.2.1
    rcases hlo2 with y | y
    · obtain ⟨r, μ', ν', u1, u2, u3, u4⟩ := ih (k + 1) fu (fu2 + 1) (B + 160) μ1 ν1 (by omega) (by omega) (by omega) (by omega) t3 (hS.w (by decide) t4 t5) (hT.r t5) y
      refine ⟨r, μ', ν', ?_, ?_, ft.trans u3, u4⟩
      · show Bo_X11_soonest_32 _ _ _ _ = _
        unfold Bo_X11_soonest_32
        rw [if_neg h30, t1, bd0_s, gI_d, hlo, if_pos y, nI_1]
        exact u1
      · show Bo_X12_soonest_32 _ _ _ _ _ = _
        unfold Bo_X12_soonest_32
        rw [if_neg h30, if_pos rfl, t2, bd0_s, mnw_79, bd_s, if_neg (by rw [y]; decide), nI_1]
        exact u2
    · obtain ⟨ν3, p1, p2⟩ := pb_e (hT.r t5)
      have hk1 : ¬ nI k = -1 := fun q => by
        have e : (nI k).toInt = (-1 : Int32).toInt := by rw [q]
        rw [nI_toInt (by omega), show (-1 : Int32).toInt = -1 by decide] at e
        omega
      refine ⟨nI k, μ1, ν3, ?_, ?_, ft, p2⟩
      · show Bo_X11_soonest_32 _ _ _ _ = _
        unfold Bo_X11_soonest_32
        rw [if_neg h30, t1, bd0_s, gI_d, hlo, if_neg (by rw [y]; decide)]
      · show Bo_X12_soonest_32 _ _ _ _ _ = _
        unfold Bo_X12_soonest_32
        rw [if_neg h30, if_pos rfl, t2, bd0_s, mnw_79, bd_s, if_pos y]
        show Bo_X12_soonest_32 _ _ _ _ _ = _
        unfold Bo_X12_soonest_32 B_X12_soonest_70
        by_cases q : (30 : Int32) < nI k + 1
        · rw [if_pos q, p1, bd0_s]
        · rw [if_neg q, if_neg hk1, p1, bd0_s]
theorem k_soonest {i : Nat} (hi : i ≤ 4096) (y0 : Int32) : CALLS i (D_X11_soonest y0) (D_X12_soonest y0) := by
  intro μ ν0 h0
  obtain ⟨ν, hν, h, he⟩ := th_e h0
  obtain ⟨st, hU, hL, hI, hQ, hgo⟩ := rt_live h
  have hS := hQ.1
  unfold D_X11_soonest D_X12_soonest 
  simp only [lt1, ← hν, wi_e, ii_e, bd_s]
  rcases rdy_e hL with ⟨rc, rm⟩ | ⟨rc, rm, n, hV, hz⟩
  · exact fin_e (r := -1) h he (by simp only [rc, bd_s, if_true]) (by simp only [rm, bd_s, if_true])
  rcases inN_k y0 (lo := 0) (hi := 30) (L := 0) (H := 30) (by decide) (by decide) with z0 | ⟨z0, a0, b0⟩
  · exact fin_e (r := -1) h he (by simp only [rc, bd_s, if_neg z10, z0, if_true]) (by simp only [rm, bd_s, if_neg z10, z0, if_true])
  simp only [rc, rm, bd_s, if_neg z10, z0]
  obtain ⟨μ1, ν1, s1, s2, s3, s4, s5, s6, s7⟩ := tr_e (v := 56) (by decide) hV
  have ft1 := s4.ft (by decide) (by decide)
  obtain ⟨r, μ', ν', u1, u2, u3, u4⟩ := soon_loop ⟨a0, b0⟩ ν 30 1 4096 4096 (20 * i) μ1 ν1 (by omega) (by omega) (by omega) (by omega) s3 (hS.tk ft1 s5) s5 (by rw [s7]; exact hz)
  exact tfin_e (r := r) h he (ft1.trans u3) u4 (by rw [s1, bd0_s]; exact u1) (by rw [s2, bd0_s]; exact u2)
/-- over -/
theorem over_loop {st n B D N : Nat} {sea what : Int32} (hsea : 0 ≤ sea.toInt ∧ sea.toInt ≤ 30) (hD : D < 100) (hN : N < 1000) (hB : B < 1000000) : ∀ (m k fu fu2 : Nat) (μ ν : gs_M) (x5 x6 x7 : Int32), k + m = N → m < fu → m < fu2 → VR μ 26 (ν.1 89) (ν.1 83) (ν.2 78 33) st n B → SS μ ν → ∃ (r : Int32) (μ' ν' : gs_M), L_X11_over_62 fu sea (nI D) (nI N) what x5 x6 x7 (nI k) μ = some (r, μ') ∧ L_X12_over_68 fu2 sea (nI D) (nI N) what x5 x6 x7 (nI k) ν = some (r, ν') ∧ FT μ μ' ∧ BK ν ν' := by
  intro m
  induction m with
  | zero =>
    intro k fu fu2 μ ν x5 x6 x7 hk hf hf2 hV hS
    obtain ⟨fu, rfl⟩ : ∃ m, fu = m + 1 := ⟨fu - 1, by omega⟩
    obtain ⟨fu2, rfl⟩ : ∃ m, fu2 = m + 1 := ⟨fu2 - 1, by omega⟩
    have hle : nI N ≤ nI k := nI_le (by omega) (by omega)
    by_cases k0 : what = 0
    · refine ⟨x5, μ, ν, ?_, ?_, FT.refl, BK.refl⟩
      · show Bo_X11_over_62 _ _ _ _ _ _ _ _ _ _ = _
        unfold Bo_X11_over_62
        rw [if_pos hle, if_pos k0]
      · show Bo_X12_over_68 _ _ _ _ _ _ _ _ _ _ = _
        unfold Bo_X12_over_68
        rw [if_pos hle, if_pos k0]
    · by_cases k1 : what = 1
      · refine ⟨x6, μ, ν, ?_, ?_, FT.refl, BK.refl⟩
        · show Bo_X11_over_62 _ _ _ _ _ _ _ _ _ _ = _
          unfold Bo_X11_over_62
          rw [if_pos hle, if_neg k0, if_pos k1]
        · show Bo_X12_over_68 _ _ _ _ _ _ _ _ _ _ = _
          unfold Bo_X12_over_68
          rw [if_pos hle, if_neg k0, if_pos k1]
      · refine ⟨x7, μ, ν, ?_, ?_, FT.refl, BK.refl⟩
        · show Bo_X11_over_62 _ _ _ _ _ _ _ _ _ _ = _
          unfold Bo_X11_over_62
          rw [if_pos hle, if_neg k0, if_neg k1]
        · show Bo_X12_over_68 _ _ _ _ _ _ _ _ _ _ = _
          unfold Bo_X12_over_68
          rw [if_pos hle, if_neg k0, if_neg k1]
  | succ m ih =>
    intro k fu fu2 μ ν x5 x6 x7 hk hf hf2 hV hS
    obtain ⟨fu, rfl⟩ : ∃ m, fu = m + 1 := ⟨fu - 1, by omega⟩
    obtain ⟨fu2, rfl⟩ : ∃ m, fu2 = m + 1 := ⟨fu2 - 1, by omega⟩
    have hle : ¬ nI N ≤ nI k := nI_ge (by omega) (by omega)
    obtain ⟨μ1, μ2, ν1, ν2, s1, s2, s3, s4, s5, s6, s7, s8⟩ := voyS_e (nI k).toInt64 (D := D) hV hS hsea hD hB
    obtain ⟨ν3, p1, p2⟩ := pb_e s7
    obtain ⟨r, l1, l2, -⟩ := lean_e s5.1 s8
    have hlo := s5.2.2.2.1
    have hlo2 := s5.2.2.2.2.1
    obtain ⟨q, μ', ν', u1, u2, u3, u4⟩ := ih (k + 1) fu fu2 μ2 ν3 (x5 + ν2.1 89 79) (x6 + r) (if x7 < (if 0 ≤ r then r else 0 - r) then (if 0 ≤ r then r else 0 - r) else x7) (by omega) (by omega) (by omega) (hV.tb s6 p2) (hS.tb s6 p2)
    refine ⟨q, μ', ν', ?_, ?_, s6.trans u3, p2.trans u4⟩
    · show Bo_X11_over_62 _ _ _ _ _ _ _ _ _ _ = _
      unfold Bo_X11_over_62 B_X11_over_124
      rw [if_neg hle, s1, bd0_s, lt1, s3, bd0_s, l1, bd_s, gI_d, hlo]
      simp only [lt1, nI_1]
      rcases hlo2 with y | y
      · rw [y] at u1 ⊢
        rw [if_pos rfl]
        exact u1
      · rw [y] at u1 ⊢
        rw [if_neg z10]
        exact u1
    · show Bo_X12_over_68 _ _ _ _ _ _ _ _ _ _ = _
      unfold Bo_X12_over_68
      rw [if_neg hle, s2, bd0_s, lt1, s4, bd0_s, mnw_79, bd_s, lt1, l2, bd_s, lt1, l2, bd_s, lt1, lt1, p1, bd0_s, nI_1]
      exact u2
theorem k_over {i : Nat} (hi : i ≤ 4096) (y0 y1 y2 y3 : Int32) : CALLS i (D_X11_over y0 y1 y2 y3) (D_X12_over y0 y1 y2 y3) := by
  intro μ ν0 h0
  obtain ⟨ν, hν, h, he⟩ := th_e h0
  obtain ⟨st, hU, hL, hI, hQ, hgo⟩ := rt_live h
  have hS := hQ.1
  unfold D_X11_over D_X12_over 
  simp only [lt1, ← hν, wi_e, ii_e, bd_s]
  rcases rdy_e hL with ⟨rc, rm⟩ | ⟨rc, rm, n, hV, hz⟩
  · exact fin_e (r := -1000000) h he (by simp only [rc, bd_s, if_true]) (by simp only [rm, bd_s, if_true])
  rcases inN_k y0 (lo := 0) (hi := 30) (L := 0) (H := 30) (by decide) (by decide) with z0 | ⟨z0, a0, b0⟩
  · exact fin_e (r := -1000000) h he (by simp only [rc, bd_s, if_neg z10, z0, if_true]) (by simp only [rm, bd_s, if_neg z10, z0, if_true])
  rcases inN_k y1 (lo := 1) (hi := 9) (L := 1) (H := 9) (by decide) (by decide) with z1 | ⟨z1, a1, b1⟩
  · exact fin_e (r := -1000000) h he (by simp only [rc, bd_s, if_neg z10, z0, z1, if_true]) (by simp only [rm, bd_s, if_neg z10, z0, z1, if_true])
  rcases inN_k y2 (lo := 1) (hi := 20) (L := 1) (H := 20) (by decide) (by decide) with z2 | ⟨z2, a2, b2⟩
  · exact fin_e (r := -1000000) h he (by simp only [rc, bd_s, if_neg z10, z0, z1, z2, if_true]) (by simp only [rm, bd_s, if_neg z10, z0, z1, z2, if_true])
  rcases inN_k y3 (lo := 0) (hi := 2) (L := 0) (H := 2) (by decide) (by decide) with z3 | ⟨z3, a3, b3⟩
  · exact fin_e (r := -1000000) h he (by simp only [rc, bd_s, if_neg z10, z0, z1, z2, z3, if_true]) (by simp only [rm, bd_s, if_neg z10, z0, z1, z2, z3, if_true])
  simp only [rc, rm, bd_s, if_neg z10, z0, z1, z2, z3]
  obtain ⟨D, d1, rfl⟩ := ti_nat (x := y1) (m := 9) (by omega) (by omega)
  obtain ⟨N, d2, rfl⟩ := ti_nat (x := y2) (m := 20) (by omega) (by omega)
  obtain ⟨r, μ', ν', u1, u2, u3, u4⟩ := over_loop (what := y3) ⟨a0, b0⟩ (D := D) (N := N) (by omega) (by omega) (by omega) N 0 4096 4096 μ ν 0 0 0 (by omega) (by omega) (by omega) hV hS
  exact tfin_e (r := r) h he u3 u4 u1 u2
/-- best -/
theorem best_loop {st n B N : Nat} {what : Int32} (hN : N ≤ 6) (hB : B < 1000000) : ∀ (m k fu fu2 : Nat) (μ ν : gs_M) (x2 x3 : Int32), k + m = N → m < fu → m < fu2 → VR μ 26 (ν.1 89) (ν.1 83) (ν.2 78 33) st n B → SS μ ν → μ.1 66 2 = nI N → ν.1 78 41 = nI N → (∀ k, k < N → (μ.1 67 k = ν.1 92 k ∧ 0 ≤ (ν.1 92 k).toInt ∧ (ν.1 92 k).toInt ≤ 30) ∧ ∃ d : Nat, 1 ≤ d ∧ d ≤ 9 ∧ μ.1 68 k = nI d ∧ ν.1 93 k = nI d) → ∃ (r : Int32) (μ' ν' : gs_M), L_X11_best_26 fu what x2 x3 (nI k) μ = some (r, μ') ∧ L_X12_best_32 fu2 what x2 x3 (nI k) ν = some (r, ν') ∧ FT μ μ' ∧ BK ν ν' := by
  intro m
  induction m with
  | zero =>
    intro k fu fu2 μ ν x2 x3 hk hf hf2 hV hS c1 c2 c3
    obtain ⟨fu, rfl⟩ : ∃ m, fu = m + 1 := ⟨fu - 1, by omega⟩
    obtain ⟨fu2, rfl⟩ : ∃ m, fu2 = m + 1 := ⟨fu2 - 1, by omega⟩
    have hle : nI N ≤ nI k := nI_le (by omega) (by omega)
    have e1 : L_X11_best_26 (fu + 1) what x2 x3 (nI k) μ = (if x2 = (-1 : Int32) then (some ((-1000000 : Int32), μ)) else (if what = 0 then (some (x2, μ)) else (some (x3, μ)))) := by
      show Bo_X11_best_26 _ _ _ _ _ _ = _
      unfold Bo_X11_best_26
      rw [gI_d, c1, if_pos hle]
    have e2 : L_X12_best_32 (fu2 + 1) what x2 x3 (nI k) ν = (if x2 = (-1 : Int32) then (some ((-1000000 : Int32), ν)) else (if what = 0 then (some (x2, ν)) else (some (x3, ν)))) := by
      show Bo_X12_best_32 _ _ _ _ _ _ = _
      unfold Bo_X12_best_32
      rw [gI_d, c2, if_pos hle]
    rw [e1, e2]
    by_cases k0 : x2 = -1
    · exact ⟨_, μ, ν, if_pos k0, if_pos k0, FT.refl, BK.refl⟩
    · rw [if_neg k0, if_neg k0]
      by_cases k1 : what = 0
      · exact ⟨_, μ, ν, if_pos k1, if_pos k1, FT.refl, BK.refl⟩
      · exact ⟨_, μ, ν, if_neg k1, if_neg k1, FT.refl, BK.refl⟩
  | succ m ih =>
    intro k fu fu2 μ ν x2 x3 hk hf hf2 hV hS c1 c2 c3
    obtain ⟨fu, rfl⟩ : ∃ m, fu = m + 1 := ⟨fu - 1, by omega⟩
    obtain ⟨fu2, rfl⟩ : ∃ m, fu2 = m + 1 := ⟨fu2 - 1, by omega⟩
    have hle : ¬ nI N ≤ nI k := nI_ge (by omega) (by omega)
    obtain ⟨⟨g1, g2, g3⟩, D, d1, d2, d3, d4⟩ := c3 k (by omega)
    obtain ⟨μ1, μ2, ν1, ν2, s1, s2, s3, s4, s5, f1, s6, tk1, s7, s8⟩ := voyT_e (sea := ν.1 92 k) (D := D) hV hS ⟨g2, g3⟩ (by omega) hB
    obtain ⟨ν3, p1, p2⟩ := pb_e s7
    obtain ⟨r, l1, l2, -⟩ := lean_e s5.1 s8
    have hlo := s5.2.2.2.1
    have hlo2 := s5.2.2.2.2.1
    have next : ∀ y2 y3 : Int32, ∃ (r : Int32) (μ' ν' : gs_M), L_X11_best_26 fu what y2 y3 (nI (k + 1)) μ2 = some (r, μ') ∧ L_X12_best_32 fu2 what y2 y3 (nI (k + 1)) ν3 = some (r, ν') ∧ FT μ2 μ' ∧ BK ν3 ν' := fun y2 y3 =>
      ih (k + 1) fu fu2 μ2 ν3 y2 y3 (by omega) (by omega) (by omega) (hV.tb s6 p2) (hS.tb s6 p2) (by rw [(s6 66 (by omega)).1]; exact c1) (by rw [p2.2.1 41 (by decide) (by decide)]; exact c2) (fun k hk => by
        rw [(s6 67 (by omega)).1, (s6 68 (by omega)).1, p2.1 92 (by decide) (by decide) (by decide), p2.1 93 (by decide) (by decide) (by decide)]
        exact c3 k hk)
    have i1 : gI μ1 (66 + 1) k = ν.1 92 k := by rw [gI_d, (f1 67 (by omega)).1]; exact g1
    have i2 : gI μ1 (66 + 2) k = nI D := by rw [gI_d, (f1 68 (by omega)).1]; exact d3
    have i3 : gI ν1 92 k = ν.1 92 k := by rw [gI_d, tk1.1 92 (by decide) (by decide) (by decide)]
    have i4 : gI ν1 93 k = nI D := by rw [gI_d, tk1.1 93 (by decide) (by decide) (by decide)]; exact d4
    have cc : ∀ y2 y3 : Int32, (y2, y3) = (if ν2.1 89 79 = 0 then (if x2 = -1 then (nI k, r) else if (if 0 ≤ r then r else 0 - r) < (if 0 ≤ x3 then x3 else 0 - x3) then (nI k, r) else (x2, x3)) else (x2, x3)) → L_X11_best_26 (fu + 1) what x2 x3 (nI k) μ = L_X11_best_26 fu what y2 y3 (nI (k + 1)) μ2 ∧ L_X12_best_32 (fu2 + 1) what x2 x3 (nI k) ν = L_X12_best_32 fu2 what y2 y3 (nI (k + 1)) ν3 := by
      intro y2 y3 hy
      refine ⟨?_, ?_⟩
      · show Bo_X11_best_26 _ _ _ _ _ _ = _
        unfold Bo_X11_best_26 B_X11_best_112
        rw [gI_d, c1, if_neg hle, s1, bd0_s, inb_n (show k < 6 by omega) (by decide), ck_t, ck_t, nI_clamp (by omega), i1, i2, s3, bd0_s, l1, bd_s, gI_d, hlo]
        simp only [lt1, nI_1]
        by_cases q1 : ν2.1 89 79 = 0
        · rw [if_pos q1] at hy ⊢
          by_cases q2 : x2 = -1
          · rw [if_pos q2] at hy ⊢
            cases hy; rfl
          · rw [if_neg q2] at hy ⊢
            by_cases q3 : (if 0 ≤ r then r else 0 - r) < (if 0 ≤ x3 then x3 else 0 - x3)
            · rw [if_pos q3] at hy
              rw [if_neg (by rw [ti_le]; rw [ti_lt] at q3; omega)]
              cases hy; rfl
            · rw [if_neg q3] at hy
              rw [if_pos (by rw [ti_le]; rw [ti_lt] at q3; omega)]
              cases hy; rfl
        · rw [if_neg q1] at hy ⊢
          cases hy; rfl
      · show Bo_X12_best_32 _ _ _ _ _ _ = _
        unfold Bo_X12_best_32 B_X12_best_78 B_X12_best_115
        rw [gI_d, c2, if_neg hle, s2, bd0_s, inb_n (show k < 6 by omega) (by decide), ck_t, ck_t, nI_clamp (by omega), i3, i4, s4, bd0_s, mnw_79, bd_s, l2, bd_s, bd_s, p1, bd0_s, bd0_s]
        simp only [lt1, nI_1]
        rcases hlo2 with q1 | q1
        · rw [if_pos q1] at hy
          rw [if_neg (by rw [q1]; decide), if_pos True.intro]
          by_cases q2 : x2 = -1
          · rw [if_pos q2] at hy ⊢
            cases hy; rfl
          · rw [if_neg q2] at hy ⊢
            by_cases q3 : (if 0 ≤ r then r else 0 - r) < (if 0 ≤ x3 then x3 else 0 - x3)
            · rw [if_pos q3] at hy ⊢
              cases hy; rfl
            · rw [if_neg q3] at hy ⊢
              cases hy; rfl
        · rw [if_neg (by rw [q1]; decide)] at hy
          rw [if_pos q1, if_neg z10]
          cases hy; rfl
    obtain ⟨⟨y2, y3⟩, hy⟩ : ∃ q : Int32 × Int32, q = (if ν2.1 89 79 = 0 then (if x2 = -1 then (nI k, r) else if (if 0 ≤ r then r else 0 - r) < (if 0 ≤ x3 then x3 else 0 - x3) then (nI k, r) else (x2, x3)) else (x2, x3)) := ⟨_, rfl⟩
    obtain ⟨w1, w2⟩ := cc y2 y3 hy
    obtain ⟨q, μ', ν', u1, u2, u3, u4⟩ := next y2 y3
    exact ⟨q, μ', ν', w1.trans u1, w2.trans u2, s6.trans u3, p2.trans u4⟩
theorem k_best {i : Nat} (hi : i ≤ 4096) (y0 : Int32) : CALLS i (D_X11_best y0) (D_X12_best y0) := by
  intro μ ν0 h0
  obtain ⟨ν, hν, h, he⟩ := th_e h0
  obtain ⟨st, hU, hL, hI, hQ, hgo⟩ := rt_live h
  have hS := hQ.1
  unfold D_X11_best D_X12_best 
  simp only [lt1, ← hν, wi_e, ii_e, bd_s]
  rcases rdy_e hL with ⟨rc, rm⟩ | ⟨rc, rm, n, hV, hz⟩
  · exact fin_e (r := -1000000) h he (by simp only [rc, bd_s, if_true]) (by simp only [rm, bd_s, if_true])
  rcases inN_k y0 (lo := 0) (hi := 1) (L := 0) (H := 1) (by decide) (by decide) with z0 | ⟨z0, a0, b0⟩
  · exact fin_e (r := -1000000) h he (by simp only [rc, bd_s, if_neg z10, z0, if_true]) (by simp only [rm, bd_s, if_neg z10, z0, if_true])
  simp only [rc, rm, bd_s, if_neg z10, z0]
  have h' := h
  obtain ⟨-, -, -, -, -, ⟨N, c0, c1, c2, c3⟩, -⟩ := h'
  obtain ⟨r, μ', ν', u1, u2, u3, u4⟩ := best_loop (what := y0) c0 (by omega) N 0 4096 4096 μ ν (-1) 0 (by omega) (by omega) (by omega) hV hS c1 c2 c3
  exact tfin_e (r := r) h he u3 u4 u1 u2
