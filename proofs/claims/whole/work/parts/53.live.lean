/-! calls on her, and trials -/
def FT (μ μ' : gs_M) : Prop := ∀ b, b < 46 ∨ 66 ≤ b → μ'.1 b = μ.1 b ∧ μ'.2 b = μ.2 b
theorem FT.refl {μ : gs_M} : FT μ μ := fun _ _ => ⟨rfl, rfl⟩
theorem FT.trans {μ0 μ1 μ2 : gs_M} (h : FT μ0 μ1) (g : FT μ1 μ2) : FT μ0 μ2 := fun b hb => ⟨(g b hb).1.trans (h b hb).1, (g b hb).2.trans (h b hb).2⟩
theorem FW.ft {v : Nat} {μ μ' : gs_M} (h : FW v μ μ') (h1 : 46 ≤ v) (h2 : v ≤ 56) : FT μ μ' := fun b hb => ⟨h.1 b (by omega), h.2 b (by omega)⟩
theorem RT.tb {i i' : Nat} {μ ν μ' ν' : gs_M} (h : RT i μ ν) (hi : i ≤ i') (ft : FT μ μ') (bk : BK ν ν') : RT i' μ' ν' := by
  obtain ⟨b1, b2, b3, b4, b5⟩ := bk
  exact h.go hi ⟨fun b hb => (ft b (by omega)).1, by rw [(ft 16 (by omega)).1], (ft 26 (by omega)).2, (ft 36 (by omega)).2⟩ ⟨fun b hb => b1 b (by omega) (by omega) (by omega), b3, fun j hj => b2 j (by omega) (by omega), b5 33 (by decide), b5 35 (by decide)⟩
theorem tfin_e {i : Nat} {μ μ' ν0 ν ν' : gs_M} {r : Int32} {x y : Option (Int32 × gs_M)} (h : RT i μ ν) (he : eM ν0 ν) (ft : FT μ μ') (bk : BK ν ν') (hx : x = some (r, μ')) (hy : y = some (r, ν')) : ∃ (r : Int32) (μ' ν' : gs_M), x = some (r, μ') ∧ y = some (r, ν') ∧ RT (i + 8) μ' ν' ∧ eC μ μ' ∧ eM ν0 ν' :=
  ⟨r, μ', ν', hx, hy, h.tb (by omega) ft bk, fun b hb => ft b (by omega), eM.trans he (fun b hb => ⟨bk.1 b (by omega) (by omega) (by omega), bk.2.2.2.1 b (by omega)⟩)⟩
theorem VR.tb {μ ν μ' ν' : gs_M} {st n B : Nat} (h : VR μ 26 (ν.1 89) (ν.1 83) (ν.2 78 33) st n B) (ft : FT μ μ') (bk : BK ν ν') : VR μ' 26 (ν'.1 89) (ν'.1 83) (ν'.2 78 33) st n B :=
  h.cm (fun b _ _ => (ft b (by omega)).1) (ft 26 (by omega)).2 bk.2.2.1 (bk.1 83 (by decide) (by decide) (by decide)) (bk.2.2.2.2 33 (by decide))
theorem SS.tb {μ ν μ' ν' : gs_M} (h : SS μ ν) (ft : FT μ μ') (bk : BK ν ν') : SS μ' ν' := h.go (ft 25 (by omega)).1 (fun j _ _ => bk.2.1 j (by omega) (by omega))
theorem SS.tk {μ ν μ' ν' : gs_M} (h : SS μ ν) (ft : FT μ μ') (bk : TK ν ν') : SS μ' ν' := h.go (ft 25 (by omega)).1 (fun j _ _ => bk.2.1 j (by omega) (by omega))
theorem rt_live {i : Nat} {μ ν : gs_M} (h : RT i μ ν) : ∃ st, cU μ ν st ∧ cL μ ν st (20 * i) ∧ cI μ ν st (20 * i) ∧ cQ μ ν ∧ (∀ μ' ν', FW 26 μ μ' → FR ν ν' → cL μ' ν' st (20 * (i + 8)) → RT (i + 8) μ' ν') := by
  obtain ⟨h1, ⟨st, h2, h3, h4⟩, ⟨sh, h5⟩, ⟨pl, h6⟩, h7, h8, h9, h10, h11, h12⟩ := h
  refine ⟨st, h2, h3, h4, h7, fun μ' ν' fw fr hL => ?_⟩
  have fc : ∀ b, (b < 26 ∨ 36 ≤ b) → μ'.1 b = μ.1 b := fw.1
  have fm : ∀ b, ¬ (b = 78 ∨ b = 89) → ν'.1 b = ν.1 b := fun b hb => fr.1 b (by omega) (by omega)
  have f78 : ∀ j, ¬ (j = 37 ∨ j = 38) → ν'.1 78 j = ν.1 78 j := fun j hj => fr.2.1 j (by omega) (by omega)
  exact ⟨h1.go (fc 1 (by decide)) (fc 2 (by decide)) (f78 6 (by decide)) (fm 79 (by decide)), ⟨st, h2.go (fc 7 (by decide)) (fc 8 (by decide)) (fc 9 (by decide)) (f78 24 (by decide)) (fm 83 (by decide)), hL, h4.go (by omega) (fun b _ _ => fc b (by omega)) (fw.2 36 (by decide)) (fm 91 (by decide)) (f78 36 (by decide)) (fm 83 (by decide)) (fr.2.2.2 35 (by decide))⟩, ⟨sh, h5.go (fc 10 (by decide)) (fc 11 (by decide)) (fc 12 (by decide)) (f78 25 (by decide)) (fm 84 (by decide)) (fm 86 (by decide))⟩, ⟨pl, h6.go (fc 13 (by decide)) (fc 14 (by decide)) (fc 15 (by decide)) (f78 26 (by decide)) (fm 85 (by decide)) (fm 87 (by decide))⟩, h7.go (fc 25 (by decide)) (fun j _ _ => f78 j (by omega)), h8.go (fc 66 (by decide)) (fc 67 (by decide)) (fc 68 (by decide)) (f78 41 (by decide)) (fm 92 (by decide)) (fm 93 (by decide)), h9.go (fc 69 (by decide)) (fc 70 (by decide)) (fc 71 (by decide)) (f78 48 (by decide)) (fm 96 (by decide)) (fm 97 (by decide)), h10.go (by rw [fc 0 (by decide)]) (fc 72 (by decide)) (f78 43 (by decide)) (fm 94 (by decide)), h11.go (fc 73 (by decide)) (fc 74 (by decide)) (f78 45 (by decide)) (fm 95 (by decide)), h12.go (by rw [fc 16 (by decide)]) (fun b _ _ => fc b (by omega)) (f78 7 (by decide)) (fm 80 (by decide)) (fm 81 (by decide))⟩
theorem rdy_e {μ ν : gs_M} {st B : Nat} (h : cL μ ν st B) : (D_X11_isReady μ = some (0, μ) ∧ D_X12_isAfloat ν = some (0, ν)) ∨ (D_X11_isReady μ = some (1, μ) ∧ D_X12_isAfloat ν = some (1, ν) ∧ ∃ n, VR μ 26 (ν.1 89) (ν.1 83) (ν.2 78 33) st n B ∧ ν.1 89 79 = 0) := by
  unfold D_X11_isReady D_X12_isAfloat D_X10_isLoaded B_X11_isReady_24 B_X12_isAfloat_23
  rcases h with ⟨h1, h2⟩ | ⟨n, h⟩
  · refine Or.inl ⟨?_, ?_⟩
    · rw [gI_d, h1, if_pos (by decide), bd_s, if_pos rfl]
    · rw [mnw_80, bd_s, h2, if_neg (by decide)]
  · have h' := h
    obtain ⟨⟨n1, n4, hs, h76, hl, hH⟩, ht, hd, hlo, hlo2, hdb, hdr⟩ := h'
    have q1 : ¬ nI n ≤ 0 := nI_nle (by omega) (by omega)
    rcases hlo2 with z | z
    · refine Or.inr ⟨?_, ?_, n, h, z⟩
      · simp only [gI_d, hs, if_neg q1, bd_s, if_neg z10, hlo, z, if_true]
      · simp only [bd_s, mnw_80, hl, mnw_79, z, if_true]
    · refine Or.inl ⟨?_, ?_⟩
      · simp only [gI_d, hs, if_neg q1, bd_s, if_neg z10, hlo, z]
      · simp only [bd_s, mnw_80, hl, mnw_79, z, if_true, if_neg z10]
theorem ild_e {μ ν : gs_M} {st B : Nat} (h : cL μ ν st B) : (D_X10_isLoaded 26 μ = some (0, μ) ∧ ν.1 89 80 = 0) ∨ (D_X10_isLoaded 26 μ = some (1, μ) ∧ ν.1 89 80 = 1 ∧ ∃ n, VR μ 26 (ν.1 89) (ν.1 83) (ν.2 78 33) st n B) := by
  unfold D_X10_isLoaded
  rcases h with ⟨h1, h2⟩ | ⟨n, h⟩
  · exact Or.inl ⟨by rw [gI_d, h1, if_pos (by decide)], h2⟩
  · have h' := h
    obtain ⟨⟨n1, n4, hs, h76, hl, hH⟩, -⟩ := h'
    exact Or.inr ⟨by rw [gI_d, hs, if_neg (nI_nle (by omega) (by omega))], hl, n, h⟩
/-- a roll that is tried -/
theorem tryR_e {μ ν : gs_M} {st n B : Nat} {x : Int32} (hV : VR μ 26 (ν.1 89) (ν.1 83) (ν.2 78 33) st n B) (hS : SS μ ν) (hx : 0 ≤ x.toInt ∧ x.toInt ≤ 40) (hB : B < 1000000) :
    ∃ (μ2 ν1 ν2 : gs_M), D_X11_tryRoll x μ = some (ν2.1 78 37 + ν2.1 78 38, μ2) ∧ D_X12_keeps ν = some ν1 ∧ D_X12_rolls x ν1 = some ν2 ∧ GG μ2 56 ν2 n ∧ VR μ2 56 (ν2.1 89) (ν2.1 83) (ν2.2 78 33) st n (B + 40) ∧ FT μ μ2 ∧ TK ν ν2 ∧ SS μ2 ν2 ∧ (∀ k, k < n → ν2.1 89 (7 * k) = ν.1 89 (7 * k)) := by
  obtain ⟨μ1, ν1, s1, s2, s3, s4, s5, s6, s7⟩ := tr_e (v := 56) (by decide) hV
  have ft1 := s4.ft (by decide) (by decide)
  have hS1 := hS.tk ft1 s5
  obtain ⟨μ2, ν2, t1, t2, t3, t4, t5, t6, t7, t8, -⟩ := roll_e s3 hS1 (by decide) hx (by omega)
  refine ⟨μ2, ν1, ν2, ?_, s2, t2, t3, t4, ft1.trans (t5.ft (by decide) (by decide)), s5.r t6, hS1.w (by decide) t5 t6, fun k hk => ?_⟩
  · unfold D_X11_tryRoll
    rw [s1, bd0_s, t1, bd_s]
  · have n4 := s3.1.2.1
    obtain ⟨⟨c, o, -, ⟨_, _, _, f1, w0, _⟩, -⟩, -⟩ := s3.1.2.2.2.2.2 k hk
    obtain ⟨⟨c', o', -, ⟨_, _, _, f1', w0', _⟩, -⟩, -⟩ := t4.1.2.2.2.2.2 k hk
    rw [w0', ← f1', t8 k (by omega), f1, ← w0, s7]

theorem k_roll {i : Nat} (hi : i ≤ 4096) (y0 : Int32) : CALLS i (D_X11_roll y0) (D_X12_roll y0) := by
  intro μ ν0 h0
  obtain ⟨ν, hν, h, he⟩ := th_e h0
  obtain ⟨st, hU, hL, hI, hQ, hgo⟩ := rt_live h
  have hS := hQ.1
  unfold D_X11_roll D_X12_roll B_X11_roll_28
  simp only [lt1, ← hν, wi_e, ii_e, bd_s]
  rcases rdy_e hL with ⟨rc, rm⟩ | ⟨rc, rm, n, hV, hz⟩
  · exact fin_e (r := -1) h he (by simp only [rc, bd_s, if_true]) (by simp only [rm, bd_s, if_true])
  rcases inN_k y0 (lo := 0) (hi := 40) (L := 0) (H := 40) (by decide) (by decide) with z0 | ⟨z0, a0, b0⟩
  · exact fin_e (r := -1) h he (by simp only [rc, bd_s, if_neg z10, z0, if_true]) (by simp only [rm, bd_s, if_neg z10, z0, if_true])
  simp only [rc, rm, bd_s, if_neg z10, z0]
  obtain ⟨μ', ν', t1, t2, t3, t4, t5, t6, -⟩ := roll_e hV hS (by decide) ⟨a0, b0⟩ (by omega)
  refine ⟨_, μ', ν', by rw [t1, bd_s], by rw [t2, bd0_s]; rfl, hgo μ' ν' t5 t6 (Or.inr ⟨n, t4.mono (by omega) (Nat.le_refl _)⟩), fun b hb => ⟨t5.1 b (by omega), t5.2 b (by omega)⟩, eM.trans he (fun b hb => ⟨t6.1 b (by omega) (by omega), t6.2.2.1 b (by omega)⟩)⟩
theorem k_day {i : Nat} (hi : i ≤ 4096) (y0 : Int32) : CALLS i (D_X11_day y0) (D_X12_day y0) := by
  intro μ ν0 h0
  obtain ⟨ν, hν, h, he⟩ := th_e h0
  obtain ⟨st, hU, hL, hI, hQ, hgo⟩ := rt_live h
  have hS := hQ.1
  unfold D_X11_day D_X12_day 
  simp only [lt1, ← hν, wi_e, ii_e, bd_s]
  rcases rdy_e hL with ⟨rc, rm⟩ | ⟨rc, rm, n, hV, hz⟩
  · exact fin_e (r := -1) h he (by simp only [rc, bd_s, if_true]) (by simp only [rm, bd_s, if_true])
  rcases inN_k y0 (lo := 0) (hi := 30) (L := 0) (H := 30) (by decide) (by decide) with z0 | ⟨z0, a0, b0⟩
  · exact fin_e (r := -1) h he (by simp only [rc, bd_s, if_neg z10, z0, if_true]) (by simp only [rm, bd_s, if_neg z10, z0, if_true])
  simp only [rc, rm, bd_s, if_neg z10, z0]
  obtain ⟨μ', ν', t1, t2, t4, t5, t6⟩ := day1_e (by decide) ⟨a0, b0⟩ (by omega) hV hS hz
  refine ⟨_, μ', ν', by rw [t1, bd0_s], by rw [t2, bd0_s, mnw_78, bd_s, gI_d, t4.2.2.1], hgo μ' ν' t5 t6 (Or.inr ⟨n, t4.mono (by omega) (Nat.le_refl _)⟩), fun b hb => ⟨t5.1 b (by omega), t5.2 b (by omega)⟩, eM.trans he (fun b hb => ⟨t6.1 b (by omega) (by omega), t6.2.2.1 b (by omega)⟩)⟩
theorem k_goes {i : Nat} (hi : i ≤ 4096) (y0 y1 : Int32) : CALLS i (D_X11_goes y0 y1) (D_X12_goes y0 y1) := by
  intro μ ν0 h0
  obtain ⟨ν, hν, h, he⟩ := th_e h0
  obtain ⟨st, hU, hL, hI, hQ, hgo⟩ := rt_live h
  have hS := hQ.1
  unfold D_X11_goes D_X12_goes 
  simp only [lt1, ← hν, wi_e, ii_e, bd_s]
  rcases rdy_e hL with ⟨rc, rm⟩ | ⟨rc, rm, n, hV, hz⟩
  · exact fin_e (r := -1000000) h he (by simp only [rc, bd_s, if_true]) (by simp only [rm, bd_s, if_true])
  rcases inN_k y0 (lo := 0) (hi := 40) (L := 0) (H := 40) (by decide) (by decide) with z0 | ⟨z0, a0, b0⟩
  · exact fin_e (r := -1000000) h he (by simp only [rc, bd_s, if_neg z10, z0, if_true]) (by simp only [rm, bd_s, if_neg z10, z0, if_true])
  rcases inN_k y1 (lo := 0) (hi := 2) (L := 0) (H := 2) (by decide) (by decide) with z1 | ⟨z1, a1, b1⟩
  · exact fin_e (r := -1000000) h he (by simp only [rc, bd_s, if_neg z10, z0, z1, if_true]) (by simp only [rm, bd_s, if_neg z10, z0, z1, if_true])
  simp only [rc, rm, bd_s, if_neg z10, z0, z1]
  obtain ⟨μ2, ν1, ν2, t1, t2, t3, t4, t5, t6, t7, t8, t9⟩ := tryR_e hV hS ⟨a0, b0⟩ (by omega)
  obtain ⟨ν3, p1, p2⟩ := pb_e t7
  obtain ⟨r, l1, l2, -⟩ := lean_e t5.1 t8
  unfold B_X12_goes_71
  simp only [t1, bd_s, t2, t3, bd0_s, gI_d]
  by_cases k0 : y1 = 0
  · exact tfin_e (r := ν2.1 78 37) h he t6 p2 (by simp only [if_pos k0, wr_e t5.1.2.2.1 t5.1.2.1, bd_s, t4.1]) (by simp only [if_pos k0, p1, bd0_s])
  · by_cases k1 : y1 = 1
    · exact tfin_e (r := ν2.1 78 38) h he t6 p2 (by simp only [if_neg k0, if_pos k1, wl_e t5.1.2.2.1 t5.1.2.1, bd_s, t4.2]) (by simp only [if_neg k0, if_pos k1, p1, bd0_s])
    · exact tfin_e (r := r) h he t6 p2 (by simp only [if_neg k0, if_neg k1, l1, bd_s]) (by simp only [if_neg k0, if_neg k1, l2, bd_s, p1, bd0_s])
theorem least_loop {st n B : Nat} (hB : B < 1000000) : ∀ (m k fu fu2 : Nat) (μ ν : gs_M), k + m = 41 → m < fu → m < fu2 → VR μ 26 (ν.1 89) (ν.1 83) (ν.2 78 33) st n B → SS μ ν → ∃ (r : Int32) (μ' ν' : gs_M), L_X11_least_11 fu (nI k) μ = some (r, μ') ∧ L_X12_least_16 fu2 (nI k) ν = some (r, ν') ∧ FT μ μ' ∧ BK ν ν' := by
  intro m
  induction m with
  | zero =>
    intro k fu fu2 μ ν hk hf hf2 hV hS
    obtain ⟨fu, rfl⟩ : ∃ m, fu = m + 1 := ⟨fu - 1, by omega⟩
    obtain ⟨fu2, rfl⟩ : ∃ m, fu2 = m + 1 := ⟨fu2 - 1, by omega⟩
    have h40 : (40 : Int32) < nI k := by
      rw [show (40 : Int32) = nI 40 from rfl]
      exact nI_lt (by omega) (by omega)
    refine ⟨-1, μ, ν, ?_, ?_, FT.refl, BK.refl⟩
    · rw [L_X11_least_11.eq_2]
      unfold Bo_X11_least_11
      dsimp only
      rw [if_pos h40]
    · rw [L_X12_least_16.eq_2]
      unfold Bo_X12_least_16
      dsimp only
      rw [if_pos h40]
  | succ m ih =>
    intro k fu fu2 μ ν hk hf hf2 hV hS
    obtain ⟨fu, rfl⟩ : ∃ m, fu = m + 1 := ⟨fu - 1, by omega⟩
    obtain ⟨fu2, rfl⟩ : ∃ m, fu2 = m + 1 := ⟨fu2 - 1, by omega⟩
    have h40 : (40 : Int32) = nI 40 := rfl
    have hlt : ¬ (40 : Int32) < nI k := by
      rw [h40]
      exact nI_nlt (by omega) (by omega)
    obtain ⟨μ2, ν1, ν2, t1, t2, t3, t4, t5, t6, t7, t8, t9⟩ := tryR_e (x := nI k) hV hS (by rw [nI_toInt (by omega)]; omega) hB
    obtain ⟨ν3, p1, p2⟩ := pb_e t7
    by_cases hq : ν2.1 78 37 + ν2.1 78 38 ≤ 0
    · obtain ⟨r, μ', ν', u1, u2, u3, u4⟩ := ih (k + 1) fu fu2 μ2 ν3 (by omega) (by omega) (by omega) (hV.tb t6 p2) (hS.tb t6 p2)
      refine ⟨r, μ', ν', ?_, ?_, t6.trans u3, p2.trans u4⟩
      · rw [L_X11_least_11.eq_2]
        unfold Bo_X11_least_11
        dsimp only
        rw [if_neg hlt, t1, bd_s, if_pos hq, nI_1]
        exact u1
      · rw [L_X12_least_16.eq_2]
        unfold Bo_X12_least_16
        dsimp only
        rw [if_neg hlt, t2, bd0_s, t3, bd0_s, lt1, p1, bd0_s, gI_d, gI_d, if_pos hq, nI_1]
        exact u2
    · refine ⟨nI k, μ2, ν3, ?_, ?_, t6, p2⟩
      · rw [L_X11_least_11.eq_2]
        unfold Bo_X11_least_11
        dsimp only
        rw [if_neg hlt, t1, bd_s, if_neg hq]
      · rw [L_X12_least_16.eq_2]
        unfold Bo_X12_least_16
        dsimp only
        rw [if_neg hlt, t2, bd0_s, t3, bd0_s, lt1, p1, bd0_s, gI_d, gI_d, if_neg hq]
theorem k_least {i : Nat} (hi : i ≤ 4096) : CALLS i (D_X11_least) (D_X12_least) := by
  intro μ ν0 h0
  obtain ⟨ν, hν, h, he⟩ := th_e h0
  obtain ⟨st, hU, hL, hI, hQ, hgo⟩ := rt_live h
  have hS := hQ.1
  unfold D_X11_least D_X12_least 
  simp only [lt1, ← hν, wi_e, ii_e, bd_s]
  rcases rdy_e hL with ⟨rc, rm⟩ | ⟨rc, rm, n, hV, hz⟩
  · exact fin_e (r := -1) h he (by simp only [rc, bd_s, if_true]) (by simp only [rm, bd_s, if_true])
  simp only [rc, rm, bd_s, if_neg z10]
  obtain ⟨r, μ', ν', u1, u2, u3, u4⟩ := least_loop (by omega) 41 0 4096 4096 μ ν (by omega) (by omega) (by omega) hV hS
  exact tfin_e (r := r) h he u3 u4 u1 u2
theorem runs_loop {st n : Nat} {a what : Int32} (ha : 0 ≤ a.toInt ∧ a.toInt ≤ 40) (ν0 : gs_M) : ∀ (m k fu fu2 B : Nat) (μ ν : gs_M) (e f : Int32), k + m = 40 → m < fu → m < fu2 → B + 40 * m < 1000000 → VR μ 56 (ν.1 89) (ν.1 83) (ν.2 78 33) st n B → SS μ ν → TK ν0 ν → ((e = 0 ∧ f = 1 ∧ ν.1 89 79 = 0) ∨ (e = 1 ∧ (f = 0 ∨ ν.1 89 79 = 1))) → ∃ (r : Int32) (μ' ν' : gs_M), L_X11_runs_45 fu a what (nI k) e μ = some (r, μ') ∧ L_X12_runs_44 fu2 a what (nI k) f ν = some (r, ν') ∧ FT μ μ' ∧ BK ν0 ν' := by
  -- the end
  have fin : ∀ (k B : Nat) (μ ν : gs_M), VR μ 56 (ν.1 89) (ν.1 83) (ν.2 78 33) st n B → SS μ ν → TK ν0 ν → ∃ (r : Int32) (ν' : gs_M), B_X11_runs_90 what (nI k) μ = some (r, μ) ∧ B_X12_runs_94 what (nI k) ν = some (r, ν') ∧ BK ν0 ν' := by
    intro k B μ ν hV hS hT
    obtain ⟨ν3, p1, p2⟩ := pb_e hT
    obtain ⟨r, l1, l2, -⟩ := lean_e hV.1 hS
    have hlo := hV.2.2.2.1
    have hlo2 := hV.2.2.2.2.1
    unfold B_X11_runs_90 B_X12_runs_94 B_X12_runs_120
    by_cases k0 : what = 0
    · refine ⟨ν.1 89 79, ν3, ?_, ?_, p2⟩
      · rw [if_pos k0, gI_d, hlo]
        rcases hlo2 with z | z
        · rw [z, if_pos rfl]
        · rw [z, if_neg z10]
      · rw [if_pos k0, mnw_79, bd_s, p1, bd0_s]
    · by_cases k1 : what = 1
      · exact ⟨nI k, ν3, by rw [if_neg k0, if_pos k1], by rw [if_neg k0, if_pos k1, p1, bd0_s], p2⟩
      · exact ⟨r, ν3, by rw [if_neg k0, if_neg k1, l1, bd_s], by rw [if_neg k0, if_neg k1, l2, bd_s, p1, bd0_s], p2⟩
  intro m
  induction m with
  | zero =>
    intro k fu fu2 B μ ν e f hk hf hf2 hB hV hS hT hef
    obtain ⟨fu, rfl⟩ : ∃ m, fu = m + 1 := ⟨fu - 1, by omega⟩
    obtain ⟨fu2, rfl⟩ : ∃ m, fu2 = m + 1 := ⟨fu2 - 1, by omega⟩
    obtain rfl : k = 40 := by omega
    obtain ⟨r, ν', u1, u2, u3⟩ := fin 40 B μ ν hV hS hT
    refine ⟨r, μ, ν', ?_, ?_, FT.refl, u3⟩
    · show Bo_X11_runs_45 _ _ _ _ _ _ = _
      unfold Bo_X11_runs_45
      rw [if_pos (by decide)]
      exact u1
    · show Bo_X12_runs_44 _ _ _ _ _ _ = _
      unfold Bo_X12_runs_44
      rw [if_pos (show (40 : Int32) ≤ nI 40 by decide)]
      by_cases q : f = 0
      · rw [if_pos q]; exact u2
      · rw [if_neg q]; exact u2
  | succ m ih =>
    intro k fu fu2 B μ ν e f hk hf hf2 hB hV hS hT hef
    obtain ⟨fu, rfl⟩ : ∃ m, fu = m + 1 := ⟨fu - 1, by omega⟩
    obtain ⟨fu2, rfl⟩ : ∃ m, fu2 = m + 1 := ⟨fu2 - 1, by omega⟩
    have hlt : ¬ (40 : Int32) ≤ nI k := nI_ge (a := k) (b := 40) (by omega) (by omega)
    rcases hef with ⟨rfl, rfl, hz⟩ | ⟨rfl, hq⟩
    · obtain ⟨μ2, ν2, t1, t2, t3, t4, t5, t6, t7, -, x1, x2, q1, q2, q3, q4⟩ := roll_e hV hS (by decide) ha (by omega)
      have ft := t5.ft (by decide) (by decide)
      have hsum : ν2.1 78 37 + ν2.1 78 38 = nI (x1 + x2) := by rw [q3, q4, nI_add]
      have hlo := t4.2.2.2.1
      have hlo2 := t4.2.2.2.2.1
      have cstep : ∀ e', (e' = (if x1 + x2 = 0 then (1 : Int32) else if ν2.1 89 79 = 0 then 0 else 1)) → Bo_X11_runs_45 (L_X11_runs_45 fu) a what (nI k) 0 μ = L_X11_runs_45 fu a what (nI (k + 1)) e' μ2 := by
        intro e' he'
        unfold Bo_X11_runs_45
        rw [if_neg hlt, if_pos rfl, t1, bd_s, hsum, gI_d, hlo, nI_1, he']
        by_cases z : x1 + x2 = 0
        · rw [z, if_pos nI_0, if_pos rfl]
        · rw [if_neg (nI_ne0 (by omega) (by omega)), if_neg z]
          by_cases z2 : ν2.1 89 79 = 0
          · rw [if_pos z2, if_pos z2]
          · rw [if_neg z2, if_neg z2]
      have mstep : ∀ f', (f' = (if x1 + x2 = 0 then (0 : Int32) else 1)) → Bo_X12_runs_44 (L_X12_runs_44 fu2) a what (nI k) 1 ν = L_X12_runs_44 fu2 a what (nI (k + 1)) f' ν2 := by
        intro f' hf'
        unfold Bo_X12_runs_44
        rw [if_neg z10, if_neg hlt, mnw_79, bd_s, if_pos hz, t2, bd0_s, gI_d, gI_d, hsum, nI_1, hf']
        by_cases z : x1 + x2 = 0
        · rw [z, if_pos (by decide), if_pos rfl]
        · rw [if_neg (nI_nle (by omega) (by omega)), if_neg z]
      obtain ⟨r, μ', ν', u1, u2, u3, u4⟩ := ih (k + 1) fu fu2 (B + 40) μ2 ν2 _ _ (by omega) (by omega) (by omega) (by omega) t4 (hS.w (by decide) t5 t6) (hT.r t6) (by
        show (((if x1 + x2 = 0 then (1 : Int32) else if ν2.1 89 79 = 0 then 0 else 1) = 0 ∧ (if x1 + x2 = 0 then (0 : Int32) else 1) = 1 ∧ ν2.1 89 79 = 0) ∨ ((if x1 + x2 = 0 then (1 : Int32) else if ν2.1 89 79 = 0 then 0 else 1) = 1 ∧ ((if x1 + x2 = 0 then (0 : Int32) else 1) = 0 ∨ ν2.1 89 79 = 1)))
        by_cases z : x1 + x2 = 0
        · rw [if_pos z, if_pos z]; exact Or.inr ⟨rfl, Or.inl rfl⟩
        · rw [if_neg z, if_neg z]
          rcases hlo2 with y | y
          · rw [if_pos y]; exact Or.inl ⟨rfl, rfl, y⟩
          · rw [if_neg (by rw [y]; decide)]; exact Or.inr ⟨rfl, Or.inr y⟩)
      exact ⟨r, μ', ν', (cstep _ rfl).trans u1, (mstep _ rfl).trans u2, ft.trans u3, u4⟩
    · obtain ⟨r, ν', u1, u2, u3⟩ := fin k B μ ν hV hS hT
      refine ⟨r, μ, ν', ?_, ?_, FT.refl, u3⟩
      · show Bo_X11_runs_45 _ _ _ _ _ _ = _
        unfold Bo_X11_runs_45
        rw [if_neg hlt, if_neg z10]
        exact u1
      · show Bo_X12_runs_44 _ _ _ _ _ _ = _
        unfold Bo_X12_runs_44
        rcases hq with y | y
        · rw [if_pos y]; exact u2
        · by_cases q : f = 0
          · rw [if_pos q]; exact u2
          · rw [if_neg q, if_neg hlt, mnw_79, bd_s, if_neg (by rw [y]; decide)]
            exact u2
theorem k_runs {i : Nat} (hi : i ≤ 4096) (y0 y1 : Int32) : CALLS i (D_X11_runs y0 y1) (D_X12_runs y0 y1) := by
  intro μ ν0 h0
  obtain ⟨ν, hν, h, he⟩ := th_e h0
  obtain ⟨st, hU, hL, hI, hQ, hgo⟩ := rt_live h
  have hS := hQ.1
  unfold D_X11_runs D_X12_runs 
  simp only [lt1, ← hν, wi_e, ii_e, bd_s]
  rcases rdy_e hL with ⟨rc, rm⟩ | ⟨rc, rm, n, hV, hz⟩
  · exact fin_e (r := -1000000) h he (by simp only [rc, bd_s, if_true]) (by simp only [rm, bd_s, if_true])
  rcases inN_k y0 (lo := 0) (hi := 40) (L := 0) (H := 40) (by decide) (by decide) with z0 | ⟨z0, a0, b0⟩
  · exact fin_e (r := -1000000) h he (by simp only [rc, bd_s, if_neg z10, z0, if_true]) (by simp only [rm, bd_s, if_neg z10, z0, if_true])
  rcases inN_k y1 (lo := 0) (hi := 2) (L := 0) (H := 2) (by decide) (by decide) with z1 | ⟨z1, a1, b1⟩
  · exact fin_e (r := -1000000) h he (by simp only [rc, bd_s, if_neg z10, z0, z1, if_true]) (by simp only [rm, bd_s, if_neg z10, z0, z1, if_true])
  simp only [rc, rm, bd_s, if_neg z10, z0, z1]
  obtain ⟨μ1, ν1, s1, s2, s3, s4, s5, s6, s7⟩ := tr_e (v := 56) (by decide) hV
  have ft1 := s4.ft (by decide) (by decide)
  obtain ⟨r, μ', ν', u1, u2, u3, u4⟩ := runs_loop (what := y1) ⟨a0, b0⟩ ν 40 0 4096 4096 (20 * i) μ1 ν1 0 1 (by omega) (by omega) (by omega) (by omega) s3 (hS.tk ft1 s5) s5 (Or.inl ⟨rfl, rfl, by rw [s7]; exact hz⟩)
  exact tfin_e (r := r) h he (ft1.trans u3) u4 (by rw [s1, bd0_s]; exact u1) (by rw [s2, bd0_s]; exact u2)
