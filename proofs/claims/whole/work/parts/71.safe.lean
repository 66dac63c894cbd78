/-! load, safe -/
theorem loads_e {μ ν νt : gs_M} {st s p r v : Nat} {fit bo sa : Int32} {z : Int64} (hs : s < 4) (hp : p < 7) (hr1 : 1 ≤ r) (hr : r ≤ 4) (h86 : νt.1 86 s = nI r) (hD : ∀ i, i < r → HD νt st s p i) (hP : ∀ i, i < r → PA μ v νt s p fit bo sa i) (hf : μ.1 v 1 = nI r ∧ μ.1 v 2 = 0 ∧ μ.1 v 3 = 0 ∧ μ.1 v 4 = 0) (hT : TM νt ν) : ∃ ν', D_X12_loads (nI s) (nI p) fit bo sa z ν = some ν' ∧ FR ν ν' ∧ ν'.2 78 33 = z ∧ ν'.1 89 79 = 0 ∧ VR μ v (ν'.1 89) (ν'.1 83) (μ.2 v 5) st r 0 := by
  obtain ⟨ν1, z1, z2, z3, z4, z5⟩ := lz_loop (x1 := nI s) (x2 := nI p) (x3 := fit) (x4 := bo) (x5 := sa) (z6 := z) 81 0 4015 ν (by omega)
  obtain ⟨ν2, hν2⟩ : ∃ ν2, ν2 = sL (sI (sI ν1 89 76 (nI r)) 89 80 1) 78 33 z := ⟨_, rfl⟩
  have e89 : ν2.1 89 = upd (upd (ν1.1 89) 76 (nI r)) 80 1 := by rw [hν2, sL_I, sI_s, sI_s]
  have eb : ∀ b, b ≠ 89 → ν2.1 b = ν.1 b := fun b h => by rw [hν2, sL_I, sI_n _ _ _ h, sI_n _ _ _ h, z4 b h]
  have el : ∀ j, j ≠ 33 → ν2.2 78 j = ν.2 78 j := fun j hj => by rw [hν2, sL_s, pk_uLn hj, sI_L, sI_L, z5]
  have el2 : ∀ b, b ≠ 78 → ν2.2 b = ν.2 b := fun b hb => by rw [hν2, sL_n _ _ _ hb, sI_L, sI_L, z5]
  have e33 : ν2.2 78 33 = z := by rw [hν2, sL_s, pk_uLs]
  obtain ⟨ν', v1, v2, v3, v4⟩ := ml_loop (νt := νt) (fit := fit) (bo := bo) (sa := sa) hs hp hr hD hP r 0 4096 ν2 (by omega) (by omega) ⟨by rw [eb 83 (by decide)]; exact hT.1, by rw [eb 84 (by decide)]; exact hT.2.1, by rw [eb 85 (by decide)]; exact hT.2.2.1, by rw [eb 86 (by decide)]; exact hT.2.2.2⟩ (by rw [e89, pk_un (by decide), pk_us]) (fun i hi => absurd hi (by omega)) (fun i j h1 h2 h3 h4 => by rw [e89, pk_un (by omega), pk_un (by omega)]; exact z2 j (by omega) (by omega)) (fun i j h1 h2 h3 => by rw [e89, pk_un (by omega), pk_un (by omega)]; exact z2 _ (by omega) (by omega))
  have w76 : ∀ j, 76 ≤ j → j < 81 → ν'.1 89 j = if j = 76 then nI r else if j = 80 then 1 else 0 := fun j h1 h2 => by
    rw [v3.2.2.1 j h1, e89]
    by_cases q : j = 76
    · rw [q, pk_un (by decide), pk_us, if_pos rfl]
    · rw [if_neg q]
      by_cases q2 : j = 80
      · rw [q2, pk_us, if_pos rfl]
      · rw [pk_un q2, pk_un q, if_neg q2, z2 j (by omega) h2]
  have fr2 : FR ν ν2 := ⟨fun b h1 h2 => eb b h2, fun j _ _ => by rw [eb 78 (by decide)], el2, el⟩
  refine ⟨ν', ?_, fr2.trans v3.r, by rw [v3.2.2.2]; exact e33, w76 79 (by omega) (by omega), ⟨⟨hr1, hr, hf.1, w76 76 (by omega) (by omega), w76 80 (by omega) (by omega), fun k hk => ?_⟩, ?_, ?_, ?_, Or.inl (w76 79 (by omega) (by omega)), ?_, rfl⟩⟩
  · unfold D_X12_loads
    refine Eq.trans z1 ?_
    show Bo_X12_loads_3 (L_X12_loads_3 4014) _ _ _ _ _ _ _ _ = _
    unfold Bo_X12_loads_3
    rw [if_pos (show (81 : Int32) ≤ nI 81 by decide), inb_n hs (by decide), ck_t, show inb (76 : Int32) 81 = true from rfl, ck_t, show Int32.toNatClampNeg 76 = 76 from rfl, lt1, show inb (80 : Int32) 81 = true from rfl, ck_t, show Int32.toNatClampNeg 80 = 80 from rfl, lt1, lt1, nI_clamp (by omega), gI_d, z4 86 (by decide), hT.2.2.2, h86, ← hν2]
    exact v1
  · have hC := v2 k hk
    have h5 := (hP k hk).1
    obtain ⟨-, -, -, -, -, -, -, -, -, -, f5, -⟩ := hC.1
    refine ⟨⟨_, _, (hD k hk).2.2.2.2.2.2.2.1, hC.1, hC.2⟩, ?_⟩
    rw [← f5, h5]
    decide
  · rw [hf.2.1]; exact (w76 77 (by omega) (by omega)).symm
  · rw [hf.2.2.1]; exact (w76 78 (by omega) (by omega)).symm
  · rw [hf.2.2.2]; exact (w76 79 (by omega) (by omega)).symm
  · rw [w76 78 (by omega) (by omega), if_neg (by decide), if_neg (by decide)]; decide
theorem kp_e {ν : gs_M} : ∃ ν', D_X12_keeps ν = some ν' ∧ TK ν ν' := by
  obtain ⟨ν1, t1, t2, t3, t4⟩ := cp_e (μ := ν) (a0 := 89) (a1 := 90) (by decide) ln_89 ln_90
  refine ⟨sL ν1 78 34 (ν.2 78 33), ?_, ⟨fun b _ _ h => t3 b h, fun j _ _ => ?_, fun j hj => t2 j hj, ?_, fun b hb => ?_, fun j j1 j2 => ?_⟩⟩
  · unfold D_X12_keeps
    rw [t1, bd0_s, lt1, gL_d, t4]
  · rw [sL_I, t3 78 (by decide)]
  · rw [sL_s, pk_uLs]
  · rw [sL_n _ _ _ hb, t4]
  · rw [sL_s, pk_uLn j2, t4]
theorem VR.draw {μ : gs_M} {v st n B : Nat} {w p : Nat → Int32} {d : Int64} (z : Int64) (h : VR μ v w p d st n B) : VR (sL μ v 5 z) v w p z st n B := by
  obtain ⟨hC, ht, hdy, hlo, hlo2, hdb, hdr⟩ := h
  exact ⟨hC.go rfl (fun _ _ _ => rfl) (fun _ _ => rfl) rfl, ht, hdy, hlo, hlo2, hdb, by rw [sL_s, pk_uLs]⟩
theorem k_load {i : Nat} (hi : i ≤ 4096) (y0 y1 : Int32) (z : Int64) : CALLS i (D_X11_load y0 y1 z) (D_X12_load y0 y1 z) := by
  intro μ ν0 h0
  obtain ⟨ν, hν, h, he⟩ := th_e h0
  obtain ⟨st, hU, hL, hI, hQ, hgo⟩ := rt_live h
  unfold D_X11_load D_X12_load
  rw [lt1, ← hν]
  rcases can_e h.2.2.1 h.2.2.2.1 hU y0 y1 with ⟨q1, q2⟩ | ⟨s, p, r, rfl, rfl, hsp, hld, q1, q2⟩
  · exact fin_e (r := 0) h he (by rw [q1, bd_s, if_pos rfl]) (by rw [q2, bd_s, if_pos rfl])
  · rw [q1, bd_s, if_neg z10, q2, bd_s, if_neg z10]
    obtain ⟨a1, a2, a3, a4, a5, a6, a7, a8⟩ := sr_e hsp
    have hD : ∀ i, i < r → HD ν st s p i := fun i hi => hd_e hU.1 hsp (hld i hi) hi
    obtain ⟨μ1, t1, t2, t3, t4, t5⟩ := lay_e (v := 26) (by decide) hU hsp hD
    obtain ⟨ν', u1, u2, u3, u4, u5⟩ := loads_e (μ := μ1) (ν := ν) (νt := ν) (z := z) (v := 26) (by omega) (by omega) a7 a8 a3 hD (fun i hi => (t3 i hi).1) t2 ⟨rfl, rfl, rfl, rfl⟩
    have hV : VR (sL μ1 26 5 z) 26 (ν'.1 89) (ν'.1 83) (ν'.2 78 33) st r 0 := by rw [u3]; exact u5.draw z
    have fw : FW 26 μ (sL μ1 26 5 z) := FW.trans t4 ⟨fun _ _ => rfl, fun b hb => sL_n _ _ _ hb⟩
    refine lfin_e (r := 1) (B := 0) hgo he fw u2 hV (by omega) ?_ ?_
    · rw [t1, bd0_s, lt1]
    · rw [u1, bd0_s]
/-- a ship laden in the class, and the reference's way to her -/
def LN (μ νt : gs_M) (st s p r : Nat) (fit bo sa : Int32) : Prop := s < 4 ∧ p < 7 ∧ 1 ≤ r ∧ r ≤ 4 ∧ νt.1 86 s = nI r ∧ (∀ i, i < r → HD νt st s p i) ∧ (∀ i, i < r → PA μ 46 νt s p fit bo sa i) ∧ (μ.1 46 1 = nI r ∧ μ.1 46 2 = 0 ∧ μ.1 46 3 = 0 ∧ μ.1 46 4 = 0)
theorem LN.go {μ μ' νt : gs_M} {st s p r : Nat} {fit bo sa : Int32} (h : LN μ νt st s p r fit bo sa) (hm : ∀ b, 46 ≤ b → b < 56 → μ'.1 b = μ.1 b) : LN μ' νt st s p r fit bo sa := by
  obtain ⟨h1, h2, h3, h4, h5, h6, h7, h8⟩ := h
  refine ⟨h1, h2, h3, h4, h5, h6, fun i hi => (h7 i hi).go (hm _ (by omega) (by omega)) (hm _ (by omega) (by omega)), ?_⟩
  rw [hm 46 (by omega) (by omega)]
  exact h8
/-- the class's memory but for the trial -/
def F56 (μ μ' : gs_M) : Prop := ∀ b, b < 56 ∨ 66 ≤ b → μ'.1 b = μ.1 b ∧ μ'.2 b = μ.2 b
theorem F56.refl {μ : gs_M} : F56 μ μ := fun _ _ => ⟨rfl, rfl⟩
theorem F56.trans {μ0 μ1 μ2 : gs_M} (h : F56 μ0 μ1) (g : F56 μ1 μ2) : F56 μ0 μ2 := fun b hb => ⟨(g b hb).1.trans (h b hb).1, (g b hb).2.trans (h b hb).2⟩
theorem F56.t {μ μ' : gs_M} (h : F56 μ μ') : FT μ μ' := fun b hb => h b (by omega)
theorem FW.f56 {μ μ' : gs_M} (h : FW 56 μ μ') : F56 μ μ' := fun b hb => ⟨h.1 b (by omega), h.2 b (by omega)⟩
theorem TK.tm {ν0 ν : gs_M} (h : TK ν0 ν) : TM ν0 ν := ⟨h.1 83 (by decide) (by decide) (by decide), h.1 84 (by decide) (by decide) (by decide), h.1 85 (by decide) (by decide) (by decide), h.1 86 (by decide) (by decide) (by decide)⟩
theorem TM.trans {ν0 ν1 ν2 : gs_M} (h : TM ν0 ν1) (g : TM ν1 ν2) : TM ν0 ν2 := ⟨g.1.trans h.1, g.2.1.trans h.2.1, g.2.2.1.trans h.2.2.1, g.2.2.2.trans h.2.2.2⟩
theorem so_loop {νt ν0 : gs_M} {st s p r N D b : Nat} {fit bo sa sea : Int32} (hsea : 0 ≤ sea.toInt ∧ sea.toInt ≤ 30) (hD : D < 100) (hN : N ≤ 5) (hb : b ≤ 5) (hTt : TM νt ν0) : ∀ (m i fu fu2 x y : Nat) (μ ν : gs_M), i + m = N → m < fu → m < fu2 → x + y = i → LN μ νt st s p r fit bo sa → SS μ ν → TK ν0 ν → ∃ (T z : Nat) (μ' ν' : gs_M), x ≤ T ∧ T ≤ N ∧ L_X11_lostOf_6 fu sea (nI D) (nI N) (nI b) (nI x) (nI i) μ = some (nI z, μ') ∧ ((T ≤ b ∧ z = T) ∨ (b < T ∧ b < z ∧ z ≤ N)) ∧ F56 μ μ' ∧ L_X12_safeBy_10 fu2 (nI s) (nI p) fit bo sa sea (nI D) (nI N) (nI y) (nI i) ν = some (nI (N - T), ν') ∧ BK ν0 ν' := by
  intro m
  induction m with
  | zero =>
    intro i fu fu2 x y μ ν hi hf hf2 hxy hL hS hT
    obtain ⟨fu, rfl⟩ : ∃ m, fu = m + 1 := ⟨fu - 1, by omega⟩
    obtain ⟨fu2, rfl⟩ : ∃ m, fu2 = m + 1 := ⟨fu2 - 1, by omega⟩
    obtain ⟨ν3, p1, p2⟩ := pb_e hT
    refine ⟨x, x, μ, ν3, Nat.le_refl _, by omega, ?_, by omega, F56.refl, ?_, p2⟩
    · show Bo_X11_lostOf_6 _ _ _ _ _ _ _ _ = _
      unfold Bo_X11_lostOf_6
      rw [if_pos (nI_le (by omega) (by omega))]
    · show Bo_X12_safeBy_10 _ _ _ _ _ _ _ _ _ _ _ _ = _
      unfold Bo_X12_safeBy_10
      rw [if_pos (nI_le (by omega) (by omega)), p1, bd0_s, show N - x = y by omega]
  | succ m ih =>
    intro i fu fu2 x y μ ν hi hf hf2 hxy hL hS hT
    obtain ⟨fu, rfl⟩ : ∃ m, fu = m + 1 := ⟨fu - 1, by omega⟩
    obtain ⟨fu2, rfl⟩ : ∃ m, fu2 = m + 1 := ⟨fu2 - 1, by omega⟩
    have hL' := hL
    obtain ⟨g1, g2, g3, g4, g5, g6, g7, g8⟩ := hL'
    obtain ⟨ν1, u1, u2, u3, u4, u5⟩ := loads_e (z := (nI i).toInt64) g1 g2 g3 g4 g5 g6 g7 g8 (hTt.trans hT.tm)
    obtain ⟨μ1, v1, v2, v3, -⟩ := bec_e (v1 := 56) (v2 := 46) (by decide) u5
    have f1 : F56 μ (sL μ1 56 5 (nI i).toInt64) := v3.f56.trans (fun b hb => ⟨rfl, sL_n _ _ _ (by omega)⟩)
    have hT1 := hT.r u2
    have hV1 : VR (sL μ1 56 5 (nI i).toInt64) 56 (ν1.1 89) (ν1.1 83) (ν1.2 78 33) st r 0 := by rw [u3]; exact v2.draw _
    have hS1 : SS (sL μ1 56 5 (nI i).toInt64) ν1 := hS.go (f1 25 (by omega)).1 (fun j _ _ => u2.2.1 j (by omega) (by omega))
    obtain ⟨μ2, ν2, w1, w2, w3, w4, w5⟩ := voy_e (D := D) (by decide) hsea (by omega) (by omega) hV1 hS1
    have f2 : F56 μ μ2 := f1.trans w4.f56
    have hlo := w3.2.2.2.1
    have hlo2 := w3.2.2.2.2.1
    have hS2 := hS1.w (by decide) w4 w5
    have hT2 := hT1.r w5
    obtain ⟨l, hl, hl2⟩ : ∃ l : Nat, l ≤ 1 ∧ (ν2.1 89 79 = 0 ↔ l = 0) := by
      rcases hlo2 with q | q
      · exact ⟨0, by omega, by simp [q]⟩
      · exact ⟨1, by omega, by simp [q]⟩
    obtain ⟨T, z, μ', ν', t1, t2, t3, t4, t5, t6, t7⟩ := ih (i + 1) fu fu2 (x + l) (y + (1 - l)) μ2 ν2 (by omega) (by omega) (by omega) (by omega) (hL.go (fun b h1 h2 => (f2 b (by omega)).1)) hS2 hT2
    have ml : L_X12_safeBy_10 (fu2 + 1) (nI s) (nI p) fit bo sa sea (nI D) (nI N) (nI y) (nI i) ν = some (nI (N - T), ν') := by
      show Bo_X12_safeBy_10 _ _ _ _ _ _ _ _ _ _ _ _ = _
      unfold Bo_X12_safeBy_10
      rw [if_neg (nI_ge (show i < N by omega) (by omega)), u1, bd0_s, w2, bd0_s, mnw_79, bd_s, lt1, lt1, nI_1, nI_1, Int32.add_zero]
      by_cases q : l = 0
      · rw [if_pos (hl2.mpr q)]
        rw [q] at t6
        exact t6
      · rw [if_neg (fun e => q (hl2.mp e))]
        rw [show 1 - l = 0 by omega, Nat.add_zero] at t6
        exact t6
    by_cases hx : b < x
    · refine ⟨T, x, μ, ν', by omega, t2, ?_, Or.inr ⟨by omega, hx, by omega⟩, F56.refl, ml, t7⟩
      show Bo_X11_lostOf_6 _ _ _ _ _ _ _ _ = _
      unfold Bo_X11_lostOf_6
      rw [if_neg (nI_ge (show i < N by omega) (by omega)), if_pos (nI_lt hx (by omega))]
    · refine ⟨T, z, μ', ν', by omega, t2, ?_, t4, f2.trans t5, ml, t7⟩
      show Bo_X11_lostOf_6 _ _ _ _ _ _ _ _ = _
      unfold Bo_X11_lostOf_6
      rw [if_neg (nI_ge (show i < N by omega) (by omega)), if_neg (nI_nlt (by omega) (by omega)), v1, bd0_s, lt1, w1, bd0_s, gI_d, hlo, lt1, lt1, nI_1, nI_1, Int32.add_zero]
      by_cases q : l = 0
      · rw [if_pos (hl2.mpr q)]
        rw [q, Nat.add_zero] at t3
        exact t3
      · rw [if_neg (fun e => q (hl2.mp e))]
        rw [show l = 1 by omega] at t3
        exact t3
/-- how many are lost: class and reference -/
theorem so_e {μ ν νt : gs_M} {st s p r N D b : Nat} {fit bo sa sea : Int32} (hsea : 0 ≤ sea.toInt ∧ sea.toInt ≤ 30) (hD : D < 100) (hN : N ≤ 5) (hb : b ≤ 5) (hT : TM νt ν) (hL : LN μ νt st s p r fit bo sa) (hS : SS μ ν) : ∃ (T z : Nat) (μ' ν' : gs_M), T ≤ N ∧ D_X11_lostOf sea (nI D) (nI N) (nI b) μ = some (nI z, μ') ∧ ((T ≤ b ∧ z = T) ∨ (b < T ∧ b < z ∧ z ≤ N)) ∧ F56 μ μ' ∧ D_X12_safeBy (nI s) (nI p) fit bo sa sea (nI D) (nI N) ν = some (nI (N - T), ν') ∧ BK ν ν' := by
  obtain ⟨ν1, k1, k2⟩ := kp_e (ν := ν)
  have hS1 : SS μ ν1 := hS.go rfl (fun j _ _ => k2.2.1 j (by omega) (by omega))
  obtain ⟨T, z, μ', ν', t1, t2, t3, t4, t5, t6, t7⟩ := so_loop (N := N) (b := b) hsea hD hN hb hT N 0 4096 4096 0 0 μ ν1 (by omega) (by omega) (by omega) (by omega) hL hS1 k2
  refine ⟨T, z, μ', ν', t2, t3, t4, t5, ?_, t7⟩
  unfold D_X12_safeBy
  rw [k1, bd0_s]
  exact t6
theorem cvo_e (x y z : Int32) (μ ν : gs_M) : (D_X11_isVoyage x y z μ = some (0, μ) ∧ D_X12_isVoyage x y z ν = some (0, ν)) ∨ ∃ D N, D ≤ 9 ∧ 1 ≤ D ∧ N ≤ 5 ∧ 1 ≤ N ∧ y = nI D ∧ z = nI N ∧ (0 ≤ x.toInt ∧ x.toInt ≤ 30) ∧ D_X11_isVoyage x y z μ = some (1, μ) ∧ D_X12_isVoyage x y z ν = some (1, ν) := by
  unfold D_X11_isVoyage D_X12_isVoyage B_X11_isVoyage_33 B_X12_isVoyage_33
  simp only [wi_e, ii_e, bd_s]
  rcases inN_k x (lo := 0) (hi := 30) (L := 0) (H := 30) (by decide) (by decide) with z0 | ⟨z0, a0, b0⟩
  · exact Or.inl ⟨by rw [z0, if_pos rfl], by rw [z0, if_pos rfl]⟩
  rcases inN_k y (lo := 1) (hi := 9) (L := 1) (H := 9) (by decide) (by decide) with z1 | ⟨z1, a1, b1⟩
  · exact Or.inl ⟨by rw [z0, if_neg z10, z1, if_pos rfl], by rw [z0, if_neg z10, z1, if_pos rfl]⟩
  rcases inN_k z (lo := 1) (hi := 5) (L := 1) (H := 5) (by decide) (by decide) with z2 | ⟨z2, a2, b2⟩
  · exact Or.inl ⟨by rw [z0, if_neg z10, z1, if_neg z10, z2, if_pos rfl], by rw [z0, if_neg z10, z1, if_neg z10, z2, if_pos rfl]⟩
  obtain ⟨D, d1, rfl⟩ := ti_nat (x := y) (m := 9) (by omega) (by omega)
  obtain ⟨N, n1, rfl⟩ := ti_nat (x := z) (m := 5) (by omega) (by omega)
  rw [nI_toInt (by omega)] at a1 a2
  exact Or.inr ⟨D, N, d1, by omega, n1, by omega, rfl, rfl, ⟨a0, b0⟩, by rw [z0, if_neg z10, z1, if_neg z10, z2, if_neg z10], by rw [z0, if_neg z10, z1, if_neg z10, z2, if_neg z10]⟩
/-- laden -/
theorem ln_e {μ ν : gs_M} {st s p r : Nat} (hU : cU μ ν st) (hsp : sPr μ ν s p r) (hld : ∀ k, k < r → LD ν st s p k) : ∃ μ', D_X11_lay 46 (nI s) (nI p) μ = some μ' ∧ LN μ' ν st s p r (-1) 0 0 ∧ FW 46 μ μ' ∧ (∀ i, i < r → CF (μ'.1 (48 + 2 * i)) (ν.1 83) (dC ν s i) (dH ν s i) (dO ν p i) (dB ν p i) (dS ν p i)) := by
  obtain ⟨a1, a2, a3, a4, a5, a6, a7, a8⟩ := sr_e hsp
  have hD : ∀ i, i < r → HD ν st s p i := fun i hi => hd_e hU.1 hsp (hld i hi) hi
  obtain ⟨μ1, t1, t2, t3, t4, t5⟩ := lay_e (v := 46) (by decide) hU hsp hD
  exact ⟨μ1, t1, ⟨by omega, by omega, a7, a8, a3, hD, fun i hi => (t3 i hi).1, t2⟩, t4, fun i hi => (t3 i hi).2⟩
theorem k_safe {i : Nat} (hi : i ≤ 4096) (y0 y1 y2 y3 y4 : Int32) : CALLS i (D_X11_safe y0 y1 y2 y3 y4) (D_X12_safe y0 y1 y2 y3 y4) := by
  intro μ ν0 h0
  obtain ⟨ν, hν, h, he⟩ := th_e h0
  obtain ⟨st, hU, hL, hI, hQ, hgo⟩ := rt_live h
  have hS := hQ.1
  unfold D_X11_safe D_X12_safe B_X12_safe_42
  rw [lt1, ← hν]
  rcases can_e h.2.2.1 h.2.2.2.1 hU y0 y1 with ⟨q1, q2⟩ | ⟨s, p, r, rfl, rfl, hsp, hld, q1, q2⟩
  · exact fin_e (r := -1) h he (by rw [q1, bd_s, if_pos rfl]) (by rw [q2, bd_s, if_pos rfl])
  rw [q1, bd_s, if_neg z10, q2, bd_s, if_neg z10]
  rcases cvo_e y2 y3 y4 μ ν with ⟨q3, q4⟩ | ⟨D, N, d1, d2, n1, n2, rfl, rfl, hsea, q3, q4⟩
  · exact fin_e (r := -1) h he (by rw [q3, bd_s, if_pos rfl]) (by rw [q4, bd_s, if_pos rfl])
  rw [q3, bd_s, if_neg z10, q4, bd_s, if_neg z10]
  obtain ⟨μ1, l1, l2, l3, -⟩ := ln_e hU hsp hld
  have hS1 : SS μ1 ν := hS.go (l3.1 25 (by omega)) (fun _ _ _ => rfl)
  obtain ⟨T, z, μ', ν', t1, t2, t3, t4, t5, t6⟩ := so_e (N := N) (b := N) hsea (show D < 100 by omega) n1 n1 ⟨rfl, rfl, rfl, rfl⟩ l2 hS1
  have hz : z = T := by omega
  subst hz
  refine tfin_e (r := nI (N - z)) h he ((l3.ft (by decide) (by decide)).trans t4.t) t6 ?_ ?_
  · rw [l1, bd0_s, t2, bd_s, pk_sub t1]
  · rw [t5, bd_s]
