/-! the ballast is turned by a rule -/
def CFo (μ μ' : gs_M) : Prop := (∀ b, b ≠ 16 → b ≠ 17 → b ≠ 24 → b ≠ 25 → b ≠ 76 → (b < 46 ∨ 66 ≤ b) → μ'.1 b = μ.1 b) ∧ (∀ j, j ≠ 5 → μ'.1 16 j = μ.1 16 j) ∧ (∀ j, j ≠ 1 → μ'.1 25 j = μ.1 25 j) ∧ (∀ b, b ≠ 56 → μ'.2 b = μ.2 b)
theorem CFo.refl {μ : gs_M} : CFo μ μ := ⟨fun _ _ _ _ _ _ _ => rfl, fun _ _ => rfl, fun _ _ => rfl, fun _ _ => rfl⟩
theorem CFo.trans {μ0 μ1 μ2 : gs_M} (h : CFo μ0 μ1) (g : CFo μ1 μ2) : CFo μ0 μ2 := ⟨fun b b1 b2 b3 b4 b5 b6 => (g.1 b b1 b2 b3 b4 b5 b6).trans (h.1 b b1 b2 b3 b4 b5 b6), fun j hj => (g.2.1 j hj).trans (h.2.1 j hj), fun j hj => (g.2.2.1 j hj).trans (h.2.2.1 j hj), fun b hb => (g.2.2.2 b hb).trans (h.2.2.2 b hb)⟩
theorem CFo.s {μ : gs_M} {a j : Nat} {v : Int32} (h : a = 17 ∨ a = 76 ∨ (a = 25 ∧ j = 1)) : CFo μ (sI μ a j v) := by
  refine ⟨fun b b1 b2 b3 b4 b5 b6 => sI_n _ _ _ (by omega), fun i hi => by rw [sI_n _ _ _ (by omega)], fun i hi => ?_, fun b _ => rfl⟩
  by_cases q : a = 25
  · subst q
    rw [sI_o _ _ (by omega)]
  · rw [sI_n _ _ _ (by omega)]
theorem FW.cf {μ μ' : gs_M} (h : FW 56 μ μ') : CFo μ μ' := ⟨fun b b1 b2 b3 b4 b5 b6 => h.1 b (by omega), fun j hj => by rw [h.1 16 (by omega)], fun j hj => by rw [h.1 25 (by omega)], h.2⟩
theorem VF.cf {μ μ' : gs_M} (h : VF μ μ') : CFo μ μ' := ⟨fun b b1 b2 b3 b4 b5 b6 => h.1 b b1 b3, h.2.1, fun j hj => by rw [h.1 25 (by decide) (by decide)], fun b hb => by rw [h.2.2]⟩
def MFo (ν ν' : gs_M) : Prop := (∀ b, b ≠ 78 → b ≠ 82 → b ≠ 89 → ν'.1 b = ν.1 b) ∧ (∀ j, (j = 6 ∨ j = 7 ∨ 18 ≤ j) → j ≠ 28 → j ≠ 37 → j ≠ 38 → j ≠ 49 → j ≠ 50 → j ≠ 51 → ν'.1 78 j = ν.1 78 j) ∧ (∀ b, b ≠ 78 → ν'.2 b = ν.2 b) ∧ (∀ j, j ≠ 33 → ν'.2 78 j = ν.2 78 j)
theorem MFo.refl {ν : gs_M} : MFo ν ν := ⟨fun _ _ _ _ => rfl, fun _ _ _ _ _ _ _ _ => rfl, fun _ _ => rfl, fun _ _ => rfl⟩
theorem MFo.trans {ν0 ν1 ν2 : gs_M} (h : MFo ν0 ν1) (g : MFo ν1 ν2) : MFo ν0 ν2 := ⟨fun b b1 b2 b3 => (g.1 b b1 b2 b3).trans (h.1 b b1 b2 b3), fun j j1 j2 j3 j4 j5 j6 j7 => (g.2.1 j j1 j2 j3 j4 j5 j6 j7).trans (h.2.1 j j1 j2 j3 j4 j5 j6 j7), fun b hb => (g.2.2.1 b hb).trans (h.2.2.1 b hb), fun j hj => (g.2.2.2 j hj).trans (h.2.2.2 j hj)⟩
theorem MFo.s {ν : gs_M} {j : Nat} {v : Int32} (h : j = 28 ∨ j = 49 ∨ j = 50 ∨ j = 51) : MFo ν (sI ν 78 j v) := ⟨fun b b1 b2 b3 => sI_n _ _ _ b1, fun i i1 i2 i3 i4 i5 i6 i7 => sI_o _ _ (by omega), fun _ _ => rfl, fun _ _ => rfl⟩
theorem MFo.s82 {ν : gs_M} {j : Nat} {v : Int32} : MFo ν (sI ν 82 j v) := ⟨fun b b1 b2 b3 => sI_n _ _ _ b2, fun i i1 i2 i3 i4 i5 i6 i7 => by rw [sI_n _ _ _ (by decide)], fun _ _ => rfl, fun _ _ => rfl⟩
theorem RG.mf {ν ν' : gs_M} (h : RG ν ν') : MFo ν ν' := ⟨fun b b1 b2 b3 => h.1 b b1, fun j j1 _ _ _ _ _ _ => h.2.1 j j1, fun b _ => by rw [h.2.2], fun b _ => by rw [h.2.2]⟩
theorem FR.mf {ν ν' : gs_M} (h : FR ν ν') : MFo ν ν' := ⟨fun b b1 b2 b3 => h.1 b b1 b3, fun j j1 _ j3 j4 _ _ _ => h.2.1 j j3 j4, h.2.2.1, h.2.2.2⟩
theorem rO.cm {μ ν μ' ν' : gs_M} {r : Nat} (hr : r < 4) (h : rO μ ν r) (hc : CFo μ μ') (hm : MFo ν ν') : rO μ' ν' r := h.go (by rw [hc.1 23 (by omega) (by omega) (by omega) (by omega) (by omega) (by omega)]) (hc.1 _ (by omega) (by omega) (by omega) (by omega) (by omega) (by omega)) (by rw [hm.1 81 (by omega) (by omega) (by omega)]) (fun j _ => by rw [hm.1 80 (by omega) (by omega) (by omega)])
theorem ms_l {μ ν : gs_M} {v st n B : Nat} {x1 x2 : Int32} (hV : VC μ v (ν.1 89) (ν.1 83) st n B) : ∀ (i k fu fu2 : Nat) (x : Int32), k + i = n → i < fu → i < fu2 → 0 ≤ x.toInt → x.toInt ≤ B → ∃ (M : Int32) (f2 : Nat), L_X10_mostShaken_4 fu v x (nI k) μ = some (M, μ) ∧ L_X12_follows_29 fu2 x1 x2 x (nI k) ν = L_X12_follows_29 (f2 + 1) x1 x2 M (nI n) ν ∧ 0 ≤ M.toInt ∧ M.toInt ≤ B := by
  obtain ⟨n1, n4, hs, h76, h80, hh⟩ := hV
  intro i
  induction i with
  | zero =>
    intro k fu fu2 x hk hf hf2 hx hx2
    obtain ⟨fu, rfl⟩ : ∃ m, fu = m + 1 := ⟨fu - 1, by omega⟩
    obtain ⟨fu2, rfl⟩ : ∃ m, fu2 = m + 1 := ⟨fu2 - 1, by omega⟩
    have hkn : k = n := by omega
    subst hkn
    refine ⟨x, fu2, ?_, rfl, hx, hx2⟩
    show Bo_X10_mostShaken_4 _ _ _ _ _ = _
    unfold Bo_X10_mostShaken_4
    rw [gI_d μ v 1, hs, if_pos (nI_le (by omega) (by omega))]
  | succ i ih =>
    intro k fu fu2 x hk hf hf2 hx hx2
    obtain ⟨fu, rfl⟩ : ∃ m, fu = m + 1 := ⟨fu - 1, by omega⟩
    obtain ⟨fu2, rfl⟩ : ∃ m, fu2 = m + 1 := ⟨fu2 - 1, by omega⟩
    obtain ⟨⟨c, o, ho, hF, hU⟩, b1, b2⟩ := hh k (by omega)
    have f5 : μ.1 (v + 2 + 2 * k) 5 = ν.1 89 (7 * k + 6) := hF.2.2.2.2.2.2.2.2.2.2.1
    obtain ⟨M, f2, t1, t2, t3, t4⟩ := ih (k + 1) fu fu2 (if x < ν.1 89 (7 * k + 6) then ν.1 89 (7 * k + 6) else x) (by omega) (by omega) (by omega) (by split <;> omega) (by split <;> omega)
    refine ⟨M, f2, ?_, ?_, t3, t4⟩
    · show Bo_X10_mostShaken_4 _ _ _ _ _ = _
      unfold Bo_X10_mostShaken_4
      rw [gI_d μ v 1, hs, if_neg (nI_ge (by omega) (by omega)), inb_n (show k < 4 by omega) (by decide), ck_t, nI_clamp (by omega), gI_d μ (v + 2 + 2 * k) 5, f5, lt1, nI_1]
      exact t1
    · rw [← t2]
      show Bo_X12_follows_29 _ _ _ _ _ _ = _
      unfold Bo_X12_follows_29
      rw [mnw_76, bd_s, h76, if_neg (nI_ge (by omega) (by omega)), mof_6 (by omega), bd_s, lt1, nI_1]
theorem m1_100 {m : Int32} (h1 : -285120 ≤ m.toInt) (h2 : m.toInt ≤ 285120) : BD (m / 100) := by
  have e : ((100 : Int32)).toInt = 100 := by decide
  obtain ⟨a, b⟩ := i_tdb (x := m.toInt) (s := 100) (M := 285120) h1 h2 (by omega)
  unfold BD
  rw [Int32.toInt_div, e, ti_bm (by omega) (by omega)]
  omega
theorem tn_e {μ ν : gs_M} {st n B r R : Nat} {sea : Int32} (hr : r < R) (hR4 : R ≤ 4) (h16 : μ.1 16 1 = nI R) (hO : rO μ ν r) (hV : VR μ 56 (ν.1 89) (ν.1 83) (ν.2 78 33) st n B) (hS : SS μ ν) (hB : B ≤ 1000000) (hsea : 0 ≤ sea.toInt ∧ sea.toInt ≤ 30) (h762 : μ.1 76 2 = ν.1 78 51) : ∃ μ' ν', D_X11_turnBallast (nI r) sea μ = some μ' ∧ D_X12_follows (nI r) sea ν = some ν' ∧ VR μ' 56 (ν'.1 89) (ν'.1 83) (ν'.2 78 33) st n B ∧ SS μ' ν' ∧ μ'.1 76 2 = ν'.1 78 51 ∧ (∀ j, j ≠ 2 → μ'.1 76 j = μ.1 76 j) ∧ ν'.1 78 49 = ν.1 78 49 ∧ ν'.1 78 50 = ν.1 78 50 ∧ CFo μ μ' ∧ MFo ν ν' ∧ ν'.1 89 = ν.1 89 := by
  obtain ⟨v, l1, l2, lb1, lb2⟩ := lean_e hV.1 hS
  obtain ⟨μ0, μt, tn, m, o1, o2, o3, o4, o5, o6, o7, o8, o9⟩ := hO
  -- the class's letters
  obtain ⟨μ1, hμ1⟩ : ∃ x, x = sI μ 17 0 v := ⟨_, rfl⟩
  obtain ⟨μ2, hμ2⟩ : ∃ x, x = sI μ1 17 1 (μ.1 56 3) := ⟨_, rfl⟩
  have k2 : ∀ b, b ≠ 17 → μ2.1 b = μ.1 b := fun b hb => by rw [hμ2, sI_n _ _ _ hb, hμ1, sI_n _ _ _ hb]
  obtain ⟨ν1, hν1⟩ : ∃ x, x = sI ν 82 108 v := ⟨_, rfl⟩
  obtain ⟨ν2, hν2⟩ : ∃ x, x = sI ν1 82 100 (ν.1 89 78) := ⟨_, rfl⟩
  have j2 : ∀ b, b ≠ 82 → ν2.1 b = ν.1 b := fun b hb => by rw [hν2, sI_n _ _ _ hb, hν1, sI_n _ _ _ hb]
  have hV2 : VC μ2 56 (ν2.1 89) (ν2.1 83) st n B := by
    rw [j2 89 (by decide), j2 83 (by decide)]
    exact hV.1.go (by rw [k2 56 (by decide)]) (fun b b1 b2 => k2 b (by omega)) (fun _ _ => rfl) rfl
  obtain ⟨M, f2, s1, s2, s3, s4⟩ := ms_l (x1 := nI r) (x2 := sea) hV2 n 0 4096 4096 0 (by omega) (by have := hV2.2.1; omega) (by have := hV2.2.1; omega) (by decide) (by show (0 : Int) ≤ _; omega)
  obtain ⟨μ3, hμ3⟩ : ∃ x, x = sI μ2 17 2 M := ⟨_, rfl⟩
  obtain ⟨μ4, hμ4⟩ : ∃ x, x = sI μ3 17 3 sea := ⟨_, rfl⟩
  obtain ⟨μ5, hμ5⟩ : ∃ x, x = sI μ4 17 4 (μ.1 25 1) := ⟨_, rfl⟩
  have k4 : ∀ b, b ≠ 17 → μ4.1 b = μ.1 b := fun b hb => by rw [hμ4, sI_n _ _ _ hb, hμ3, sI_n _ _ _ hb, k2 b hb]
  have k5 : ∀ b, b ≠ 17 → μ5.1 b = μ.1 b := fun b hb => by rw [hμ5, sI_n _ _ _ hb, k4 b hb]
  obtain ⟨ν3, hν3⟩ : ∃ x, x = sI ν2 82 115 M := ⟨_, rfl⟩
  obtain ⟨ν4, hν4⟩ : ∃ x, x = sI ν3 82 119 sea := ⟨_, rfl⟩
  obtain ⟨ν5, hν5⟩ : ∃ x, x = sI ν4 82 98 (ν.1 78 28) := ⟨_, rfl⟩
  have j4 : ∀ b, b ≠ 82 → ν4.1 b = ν.1 b := fun b hb => by rw [hν4, sI_n _ _ _ hb, hν3, sI_n _ _ _ hb, j2 b hb]
  have j5 : ∀ b, b ≠ 82 → ν5.1 b = ν.1 b := fun b hb => by rw [hν5, sI_n _ _ _ hb, j4 b hb]
  have hV5 : VC μ5 56 (ν5.1 89) (ν5.1 83) st n B := by
    rw [j5 89 (by decide), j5 83 (by decide)]
    exact hV.1.go (by rw [k5 56 (by decide)]) (fun b b1 b2 => k5 b (by omega)) (fun _ _ => rfl) rfl
  obtain ⟨mm, q1, q2, q3, q4⟩ := moms_e hV5
  obtain ⟨μ6, hμ6⟩ : ∃ x, x = sI μ5 17 5 (mm / 100) := ⟨_, rfl⟩
  obtain ⟨ν6, hν6⟩ : ∃ x, x = sI ν5 82 109 (mm / 100) := ⟨_, rfl⟩
  have k6 : ∀ b, b ≠ 17 → μ6.1 b = μ.1 b := fun b hb => by rw [hμ6, sI_n _ _ _ hb, k5 b hb]
  have j6 : ∀ b, b ≠ 82 → ν6.1 b = ν.1 b := fun b hb => by rw [hν6, sI_n _ _ _ hb, j5 b hb]
  have c6 : CFo μ μ6 := by
    rw [hμ6, hμ5, hμ4, hμ3, hμ2, hμ1]
    exact (CFo.s (Or.inl rfl)).trans ((CFo.s (Or.inl rfl)).trans ((CFo.s (Or.inl rfl)).trans ((CFo.s (Or.inl rfl)).trans ((CFo.s (Or.inl rfl)).trans (CFo.s (Or.inl rfl))))))
  have m6 : MFo ν ν6 := by
    rw [hν6, hν5, hν4, hν3, hν2, hν1]
    exact MFo.s82.trans (MFo.s82.trans (MFo.s82.trans (MFo.s82.trans (MFo.s82.trans MFo.s82))))
  have l62 : μ6.2 = μ.2 := by rw [hμ6, hμ5, hμ4, hμ3, hμ2, hμ1]; rfl
  have n62 : ν6.2 = ν.2 := by rw [hν6, hν5, hν4, hν3, hν2, hν1]; rfl
  -- the letters are alike
  have a0 : Lm ν6 0 = v ∧ μ6.1 17 0 = v := by
    constructor
    · show ν6.1 82 108 = v
      rw [hν6, sI_o _ _ (by decide), hν5, sI_o _ _ (by decide), hν4, sI_o _ _ (by decide), hν3, sI_o _ _ (by decide), hν2, sI_o _ _ (by decide), hν1, sI_u]
    · rw [hμ6, sI_o _ _ (by decide), hμ5, sI_o _ _ (by decide), hμ4, sI_o _ _ (by decide), hμ3, sI_o _ _ (by decide), hμ2, sI_o _ _ (by decide), hμ1, sI_u]
  have a1 : Lm ν6 1 = ν.1 89 78 ∧ μ6.1 17 1 = ν.1 89 78 := by
    constructor
    · show ν6.1 82 100 = _
      rw [hν6, sI_o _ _ (by decide), hν5, sI_o _ _ (by decide), hν4, sI_o _ _ (by decide), hν3, sI_o _ _ (by decide), hν2, sI_u]
    · rw [hμ6, sI_o _ _ (by decide), hμ5, sI_o _ _ (by decide), hμ4, sI_o _ _ (by decide), hμ3, sI_o _ _ (by decide), hμ2, sI_u]
      exact hV.2.2.1
  have a2 : Lm ν6 2 = M ∧ μ6.1 17 2 = M := by
    constructor
    · show ν6.1 82 115 = _
      rw [hν6, sI_o _ _ (by decide), hν5, sI_o _ _ (by decide), hν4, sI_o _ _ (by decide), hν3, sI_u]
    · rw [hμ6, sI_o _ _ (by decide), hμ5, sI_o _ _ (by decide), hμ4, sI_o _ _ (by decide), hμ3, sI_u]
  have a3 : Lm ν6 3 = sea ∧ μ6.1 17 3 = sea := by
    constructor
    · show ν6.1 82 119 = _
      rw [hν6, sI_o _ _ (by decide), hν5, sI_o _ _ (by decide), hν4, sI_u]
    · rw [hμ6, sI_o _ _ (by decide), hμ5, sI_o _ _ (by decide), hμ4, sI_u]
  have a4 : Lm ν6 4 = ν.1 78 28 ∧ μ6.1 17 4 = ν.1 78 28 := by
    constructor
    · show ν6.1 82 98 = _
      rw [hν6, sI_o _ _ (by decide), hν5, sI_u]
    · rw [hμ6, sI_o _ _ (by decide), hμ5, sI_u]
      exact hS.2.1
  have a5 : Lm ν6 5 = mm / 100 ∧ μ6.1 17 5 = mm / 100 := by
    constructor
    · show ν6.1 82 109 = _
      rw [hν6, sI_u]
    · rw [hμ6, sI_u]
  have hL6 : ∀ k, k < 6 → μ6.1 17 k = Lm ν6 k := by
    intro k hk
    have : k = 0 ∨ k = 1 ∨ k = 2 ∨ k = 3 ∨ k = 4 ∨ k = 5 := by omega
    rcases this with rfl | rfl | rfl | rfl | rfl | rfl
    · rw [a0.1, a0.2]
    · rw [a1.1, a1.2]
    · rw [a2.1, a2.2]
    · rw [a3.1, a3.2]
    · rw [a4.1, a4.2]
    · rw [a5.1, a5.2]
  have hLB : LB ν6 := by
    intro k hk
    have d1 := hV.2.2.2.2.2.1
    have d2 := hS.2.2.2.2
    have : k = 0 ∨ k = 1 ∨ k = 2 ∨ k = 3 ∨ k = 4 ∨ k = 5 := by omega
    rcases this with rfl | rfl | rfl | rfl | rfl | rfl
    · rw [a0.1]; unfold BD; omega
    · rw [a1.1]; unfold BD; omega
    · rw [a2.1]; unfold BD; omega
    · rw [a3.1]; unfold BD; omega
    · rw [a4.1]; unfold BD; omega
    · rw [a5.1]; exact m1_100 q3 q4
  -- the rule is gone through
  obtain ⟨f, μt', ν7, g1, g2, g3, g4, g5, g6, g7⟩ := rar_e (B := 80) (b0 := 160 * r) (ν := ν6) o1 o3 (Or.inr ⟨rfl, by omega⟩) (fun j hj => by rw [j6 80 (by decide)]; exact o9 j hj)
  rw [o4] at g1
  cases g1
  obtain ⟨m', m1, m2, m3⟩ := g7 rfl
  have hmm : m' = m := by
    rw [o5] at m2
    exact ((nI_eq (by omega) (by omega)).mp m2).symm
  subst hmm
  obtain ⟨μ7, w1, w2⟩ := wo_e (L := Lm ν6) (code := μt.1 6) hr hR4 m1 (by rw [k6 16 (by decide)]; exact h16) (by rw [k6 23 (by decide)]; exact o6) hL6 (fun j hj => by rw [k6 (19 + r) (by omega)]; exact o7 j hj)
  rw [m3 hLB] at w1
  obtain ⟨W, hW⟩ : ∃ W, W = ν7.1 78 14 := ⟨_, rfl⟩
  rw [← hW] at w1
  have hb7 : μ7.1 25 1 = ν.1 78 28 := by rw [w2.1 25 (by decide) (by decide), k6 25 (by decide)]; exact hS.2.1
  have hb7m : ν7.1 78 28 = ν.1 78 28 := by rw [g4.2.1 28 (by omega), j6 78 (by decide)]
  have h51 : ν7.1 78 51 = ν.1 78 51 := by rw [g4.2.1 51 (by omega), j6 78 (by decide)]
  have h76 : μ7.1 76 2 = ν.1 78 51 := by rw [w2.1 76 (by decide) (by decide), k6 76 (by decide)]; exact h762
  obtain ⟨T, hT⟩ : ∃ T, T = (if 0 ≤ (heN W 999 - ν.1 78 28) then (heN W 999 - ν.1 78 28) else 0 - (heN W 999 - ν.1 78 28)) := ⟨_, rfl⟩
  have i0 : inb (0 : Int32) 6 = true := by decide
  have i1 : inb (1 : Int32) 6 = true := by decide
  have i2 : inb (2 : Int32) 6 = true := by decide
  have i3 : inb (3 : Int32) 6 = true := by decide
  have i4 : inb (4 : Int32) 6 = true := by decide
  have i5 : inb (5 : Int32) 6 = true := by decide
  have i23 : inb (2 : Int32) 3 = true := by decide
  have c0 : Int32.toNatClampNeg (0 : Int32) = 0 := by decide
  have c1 : Int32.toNatClampNeg (1 : Int32) = 1 := by decide
  have c2 : Int32.toNatClampNeg (2 : Int32) = 2 := by decide
  have c3 : Int32.toNatClampNeg (3 : Int32) = 3 := by decide
  have c4 : Int32.toNatClampNeg (4 : Int32) = 4 := by decide
  have c5 : Int32.toNatClampNeg (5 : Int32) = 5 := by decide
  have e563 : μ1.1 56 3 = μ.1 56 3 := by rw [hμ1, sI_n _ _ _ (by decide)]
  have e251 : μ4.1 25 1 = μ.1 25 1 := by rw [k4 25 (by decide)]
  have e8978 : ν1.1 89 78 = ν.1 89 78 := by rw [hν1, sI_n _ _ _ (by decide)]
  have cls : D_X11_turnBallast (nI r) sea μ = some (sI (sI μ7 76 2 (ν.1 78 51 + T)) 25 1 (heN W 999)) := by
    unfold D_X11_turnBallast
    have s1' : D_X10_mostShaken 56 μ2 = some (M, μ2) := s1
    rw [i0, i1, i2, i3, i4, i5, i23, c0, c1, c2, c3, c4, c5, l1, bd_s, ck_t, lt1, ← hμ1, ck_t, gI_d μ1 56 3, e563, lt1, ← hμ2, s1', bd_s, ck_t, lt1, ← hμ3, ck_t, lt1, ← hμ4, ck_t, gI_d μ4 25 1, e251, lt1, ← hμ5, q1, bd_s, ck_t, lt1, ← hμ6, w1, bd_s, hel_e, bd_s, ck_t, gI_d μ7 25 1, hb7, ← hT, lt1, ck_t, gI_d μ7 76 2, h76, lt1, lt1]
  have y1 : inb (108 : Int32) 128 = true := by decide
  have y2 : inb (100 : Int32) 128 = true := by decide
  have y3 : inb (115 : Int32) 128 = true := by decide
  have y4 : inb (119 : Int32) 128 = true := by decide
  have y5 : inb (98 : Int32) 128 = true := by decide
  have y6 : inb (109 : Int32) 128 = true := by decide
  have d1 : Int32.toNatClampNeg (108 : Int32) = 108 := by decide
  have d2 : Int32.toNatClampNeg (100 : Int32) = 100 := by decide
  have d3 : Int32.toNatClampNeg (115 : Int32) = 115 := by decide
  have d4 : Int32.toNatClampNeg (119 : Int32) = 119 := by decide
  have d5 : Int32.toNatClampNeg (98 : Int32) = 98 := by decide
  have d6 : Int32.toNatClampNeg (109 : Int32) = 109 := by decide
  have e28 : ν4.1 78 28 = ν.1 78 28 := by rw [j4 78 (by decide)]
  have e81 : ν6.1 81 r = nI tn := by rw [j6 81 (by decide)]; exact o8
  have mdl : D_X12_follows (nI r) sea ν = some (sI (sI ν7 78 51 (ν.1 78 51 + T)) 78 28 (heN W 999)) := by
    unfold D_X12_follows
    have s2' : L_X12_follows_29 4096 (nI r) sea 0 0 ν2 = L_X12_follows_29 (f2 + 1) (nI r) sea M (nI n) ν2 := s2
    rw [y1, y2, d1, d2, l2, bd_s, ck_t, lt1, ← hν1, mnw_78, bd_s, e8978, ck_t, lt1, ← hν2, s2']
    show Bo_X12_follows_29 _ _ _ _ _ _ = _
    unfold Bo_X12_follows_29
    rw [mnw_76, bd_s, hV2.2.2.2.1, if_pos (nI_le (by omega) (by have := hV2.2.1; omega)), y3, y4, y5, y6, d3, d4, d5, d6, ck_t, lt1, ← hν3, ck_t, lt1, ← hν4, ck_t, gI_d ν4 78 28, e28, lt1, ← hν5, q2, bd_s, ck_t, lt1, ← hν6, inb_n (show r < 4 by omega) (by decide), ck_t, nI_clamp (by omega), gI_d ν6 81 r, e81, show (160 : Int32) = nI 160 from rfl, pk_mul, g2, bd0_s, gI_d ν7 78 14, ← hW, lt1, lt1, ← he_c, gI_d ν7 78 28, hb7m, ← hT, lt1, gI_d ν7 78 51, h51, lt1, lt1]
  refine ⟨_, _, cls, mdl, ?_, ?_, ?_, fun j hj => ?_, ?_, ?_, ?_, ?_, ?_⟩
  · have e89 : (sI (sI ν7 78 51 (ν.1 78 51 + T)) 78 28 (heN W 999)).1 89 = ν.1 89 := by rw [sI_n _ _ _ (by decide), sI_n _ _ _ (by decide), g4.1 89 (by decide), j6 89 (by decide)]
    have e83 : (sI (sI ν7 78 51 (ν.1 78 51 + T)) 78 28 (heN W 999)).1 83 = ν.1 83 := by rw [sI_n _ _ _ (by decide), sI_n _ _ _ (by decide), g4.1 83 (by decide), j6 83 (by decide)]
    have eL : (sI (sI ν7 78 51 (ν.1 78 51 + T)) 78 28 (heN W 999)).2 = ν.2 := by
      show ν7.2 = _
      rw [g4.2.2, n62]
    rw [e89, e83, eL]
    refine hV.cm (fun b b1 b2 => ?_) ?_ (fun _ _ => rfl) rfl rfl
    · rw [sI_n _ _ _ (by omega), sI_n _ _ _ (by omega), w2.1 b (by omega) (by omega), k6 b (by omega)]
    · show μ7.2 56 = _
      rw [w2.2.2, l62]
  · obtain ⟨S1, S2, S3, S4, S5⟩ := hS
    have k25 : ∀ j, j ≠ 1 → (sI (sI μ7 76 2 (ν.1 78 51 + T)) 25 1 (heN W 999)).1 25 j = μ.1 25 j := fun j hj => by rw [sI_o _ _ hj, sI_n _ _ _ (by decide), w2.1 25 (by decide) (by decide), k6 25 (by decide)]
    have m78 : ∀ j, 18 ≤ j → j ≠ 28 → j ≠ 51 → (sI (sI ν7 78 51 (ν.1 78 51 + T)) 78 28 (heN W 999)).1 78 j = ν.1 78 j := fun j j1 j2 j3 => by rw [sI_o _ _ j2, sI_o _ _ j3, g4.2.1 j (by omega), j6 78 (by decide)]
    refine ⟨?_, ?_, ?_, ?_, ?_⟩
    · rw [k25 0 (by decide), m78 27 (by omega) (by omega) (by omega)]; exact S1
    · rw [sI_u, sI_u]
    · rw [k25 2 (by decide), m78 29 (by omega) (by omega) (by omega)]; exact S3
    · rw [m78 27 (by omega) (by omega) (by omega)]; exact S4
    · rw [sI_u]; exact he_b W
  · rw [sI_n _ _ _ (by decide), sI_u, sI_o _ _ (by decide), sI_u]
  · rw [sI_n _ _ _ (by decide), sI_o _ _ hj, w2.1 76 (by decide) (by decide), k6 76 (by decide)]
  · rw [sI_o _ _ (by decide), sI_o _ _ (by decide), g4.2.1 49 (by omega), j6 78 (by decide)]
  · rw [sI_o _ _ (by decide), sI_o _ _ (by decide), g4.2.1 50 (by omega), j6 78 (by decide)]
  · exact c6.trans (w2.cf.trans ((CFo.s (by omega)).trans (CFo.s (by omega))))
  · exact m6.trans (g4.mf.trans ((MFo.s (by omega)).trans (MFo.s (by omega))))
  · rw [sI_n _ _ _ (by decide), sI_n _ _ _ (by decide), g4.1 89 (by decide), j6 89 (by decide)]
