/-! texts of items are kept -/
theorem kl_loop {a0 e : Nat} (ha : a0 = 7 ∨ a0 = 10 ∨ a0 = 13) (he : e < 6) : ∀ (m j fu : Nat) (μ : gs_M), j + m = 20 → m < fu → μ.1 a0 3 = nI e → ∃ μ', L_X9_keep_28 fu a0 (nI j) μ = some (nI e, μ') ∧ (∀ b, b ≠ a0 → b ≠ a0 + 2 → μ'.1 b = μ.1 b) ∧ (∀ q, q ≠ 3 → μ'.1 a0 q = μ.1 a0 q) ∧ μ'.1 a0 3 = nI (e + 1) ∧ (∀ i, j ≤ i → i < 20 → μ'.1 (a0 + 2) (20 * e + i) = μ.1 4 i) ∧ (∀ q, q < 20 * e + j ∨ 20 * e + 20 ≤ q → μ'.1 (a0 + 2) q = μ.1 (a0 + 2) q) ∧ μ'.2 = μ.2 := by
  intro m
  induction m with
  | zero =>
    intro j fu μ hj hf h3
    obtain ⟨fu, rfl⟩ : ∃ m, fu = m + 1 := ⟨fu - 1, by omega⟩
    refine ⟨sI μ a0 3 (nI (e + 1)), ?_, fun b b1 _ => sI_n _ _ _ b1, fun q hq => sI_o _ _ hq, sI_u _ _ _ _, fun i i1 i2 => by omega, fun q _ => by rw [sI_n _ _ _ (by omega)], rfl⟩
    show Bo_X9_keep_28 _ _ _ _ = _
    unfold Bo_X9_keep_28
    rw [if_pos (show (20 : Int32) ≤ nI j by rw [show (20 : Int32) = nI 20 from rfl]; exact nI_le (by omega) (by omega)), lt1, gI_d μ a0 3, h3, nI_1, gI_d, sI_u, nI_m1 (by omega), Nat.add_sub_cancel]
  | succ m ih =>
    intro j fu μ hj hf h3
    obtain ⟨fu, rfl⟩ : ∃ m, fu = m + 1 := ⟨fu - 1, by omega⟩
    have e20 : nI e * 4 * 5 + nI j = nI (20 * e + j) := by
      rw [← nI_add]
      congr 1
      have : e = 0 ∨ e = 1 ∨ e = 2 ∨ e = 3 ∨ e = 4 ∨ e = 5 := by omega
      rcases this with rfl | rfl | rfl | rfl | rfl | rfl <;> rfl
    obtain ⟨μ', t1, t2, t3, t4, t5, t6, t7⟩ := ih (j + 1) fu (sI μ (a0 + 2) (20 * e + j) (μ.1 4 j)) (by omega) (by omega) (by rw [sI_n _ _ _ (by omega)]; exact h3)
    refine ⟨μ', ?_, fun b b1 b2 => by rw [t2 b b1 b2, sI_n _ _ _ b2], fun q hq => by rw [t3 q hq, sI_n _ _ _ (by omega)], t4, fun i i1 i2 => ?_, fun q hq => by rw [t6 q (by omega), sI_o _ _ (by omega)], t7⟩
    · show Bo_X9_keep_28 _ _ _ _ = _
      unfold Bo_X9_keep_28
      rw [if_neg (show ¬ (20 : Int32) ≤ nI j by rw [show (20 : Int32) = nI 20 from rfl]; exact nI_ge (by omega) (by omega)), inb_n (by omega) (by decide), ck_t, gI_d μ a0 3, h3, e20, inb_n (by omega) (by decide), ck_t, nI_clamp (by omega), nI_clamp (by omega), gI_d, lt1, nI_1]
      exact t1
    · by_cases q : i = j
      · subst q
        rw [t6 _ (by omega), sI_u]
      · rw [t5 i (by omega) i2, sI_n _ _ _ (by omega)]
theorem kp_i {a0 e cap : Nat} {μ : gs_M} (ha : a0 = 7 ∨ a0 = 10 ∨ a0 = 13) (he : e < cap) (hcap : cap ≤ 6) (h3 : μ.1 a0 3 = nI e) (h0 : μ.1 a0 0 = nI cap) : ∃ μ', D_X9_keep a0 μ = some (nI e, μ') ∧ (∀ b, b ≠ a0 → b ≠ a0 + 1 → b ≠ a0 + 2 → μ'.1 b = μ.1 b) ∧ (∀ q, q ≠ 3 → μ'.1 a0 q = μ.1 a0 q) ∧ μ'.1 a0 3 = nI (e + 1) ∧ μ'.1 (a0 + 1) e = μ.1 3 4 ∧ (∀ q, q ≠ e → μ'.1 (a0 + 1) q = μ.1 (a0 + 1) q) ∧ (∀ i, i < 20 → μ'.1 (a0 + 2) (20 * e + i) = μ.1 4 i) ∧ (∀ q, q < 20 * e → μ'.1 (a0 + 2) q = μ.1 (a0 + 2) q) ∧ μ'.2 = μ.2 := by
  obtain ⟨μ', t1, t2, t3, t4, t5, t6, t7⟩ := kl_loop ha (show e < 6 by omega) 20 0 4096 (sI μ (a0 + 1) e (μ.1 3 4)) (by omega) (by omega) (by rw [sI_n _ _ _ (by omega)]; exact h3)
  refine ⟨μ', ?_, fun b b1 b2 b3 => by rw [t2 b b1 b3, sI_n _ _ _ b2], fun q hq => by rw [t3 q hq, sI_n _ _ _ (by omega)], t4, by rw [t2 _ (by omega) (by omega), sI_u], fun q hq => by rw [t2 _ (by omega) (by omega), sI_o _ _ hq], fun i hi => by rw [t5 i (by omega) hi, sI_n _ _ _ (by omega)], fun q hq => by rw [t6 q (by omega), sI_n _ _ _ (by omega)], t7⟩
  unfold D_X9_keep
  rw [gI_d, gI_d, h3, h0, if_pos (nI_lt (by omega) (by omega)), inb_n (show e < 6 by omega) (by decide), ck_t, nI_clamp (by omega), gI_d, lt1]
  exact t1
theorem kp_o {a0 e : Nat} {μ : gs_M} (he : e ≤ 6) (h3 : μ.1 a0 3 = nI e) (h0 : μ.1 a0 0 = nI e) : D_X9_keep a0 μ = some (-1, μ) := by
  unfold D_X9_keep
  rw [gI_d, gI_d, h3, h0, if_neg (nI_nlt (by omega) (by omega))]
theorem vl_n {k j : Nat} {v : Int32} {lo hi : Nat} (h : VL k j v) (h1 : (cA 1 (5 * k + j)).toInt = lo) (h2 : (cA 2 (5 * k + j)).toInt = hi) : ∃ n, lo ≤ n ∧ n ≤ hi ∧ v = nI n := by
  obtain ⟨a, b⟩ := h
  exact ⟨v.toInt.toNat, by omega, by omega, ti_nI (by omega)⟩
theorem kw_e {k : Nat} (hk : k ≤ 2) (μ : gs_M) : D_X11_keepWhatWasRead (nI k) μ = D_X9_keep (7 + 3 * k) μ := by
  have e : ∀ x : Option (Int32 × gs_M), bd x (fun v5 u4 => some (v5, u4)) = x := fun x => by cases x <;> rfl
  have : k = 0 ∨ k = 1 ∨ k = 2 := by omega
  unfold D_X11_keepWhatWasRead
  rw [lt1]
  rcases this with rfl | rfl | rfl
  · rw [if_pos (show nI 0 = 0 from rfl), e]
  · rw [if_neg (show ¬ nI 1 = 0 by decide), if_pos (show nI 1 = 1 from rfl), e]
  · rw [if_neg (show ¬ nI 2 = 0 by decide), if_neg (show ¬ nI 2 = 1 by decide), if_pos (show nI 2 = 2 from rfl), e]
theorem tc_e {k : Nat} (hk : k ≤ 2) (μ : gs_M) : D_X11_text (nI k) μ = bd (D_X2_readAll (nI k) μ) (fun v8 u7 => if v8 = (-1 : Int32) then (bd (D_X9_keep (7 + 3 * k) u7) (fun v4 u3 => if v4 = (-1 : Int32) then some (v4, u3) else some (v4, sI u3 1 1 0))) else some (-1, u7)) := by
  unfold D_X11_text B_X11_text_34
  rw [wi_e, bd_s, show (3 : Int32) = nI 3 from rfl, in_k (by omega) (by omega), if_neg z10, if_neg (show ¬ nI k = nI 3 by rw [nI_eq (by omega) (by omega)]; omega)]
  congr 1
  funext v8 u7
  rw [kw_e hk]
  unfold B_X11_text_49
  rw [if_pos (show (-1 : Int32) = -1 from rfl)]
  rfl
theorem txm_e {k e : Nat} {ν : gs_M} (hk : k ≤ 2) (h : ν.1 78 (24 + k) = nI e) (he : e ≤ 6) : D_X12_text (nI k) ν = if e = (if k = 1 then 3 else 6) then some (-1, sI ν 78 0 0) else bd (D_X12_fault (nI k) (sI ν 78 0 0)) (fun v7 u6 => if v7 = (-1 : Int32) then (bd0 (D_X12_read (nI k) (nI e) u6) (fun u10 => some (nI e, sI (sI u10 78 6 0) 78 (24 + k) (u10.1 78 (24 + k) + 1)))) else some (-1, u6)) := by
  unfold D_X12_text
  have h0 : (sI ν 78 0 0).1 78 (24 + k) = nI e := by rw [sI_o _ _ (by omega)]; exact h
  have go : B_X12_text_53 (nI k) (nI e) (sI ν 78 0 0) = if e = (if k = 1 then 3 else 6) then some (-1, sI ν 78 0 0) else bd (D_X12_fault (nI k) (sI ν 78 0 0)) (fun v7 u6 => if v7 = (-1 : Int32) then (bd0 (D_X12_read (nI k) (nI e) u6) (fun u10 => some (nI e, sI (sI u10 78 6 0) 78 (24 + k) (u10.1 78 (24 + k) + 1)))) else some (-1, u6)) := by
    unfold B_X12_text_53
    rw [mt_e hk, bd_s]
    by_cases q : e = (if k = 1 then 3 else 6)
    · rw [if_pos q, if_pos (by rw [← q])]
    · rw [if_neg q, if_neg (fun z => q ((nI_eq (by omega) (by split <;> omega)).mp z))]
      congr 1
      funext v7 u6
      by_cases q7 : v7 = -1
      · rw [if_pos q7, if_pos q7]
        congr 1
        funext u10
        rw [lt1]
        unfold B_X12_text_98 B_X12_text_113
        have : k = 0 ∨ k = 1 ∨ k = 2 := by omega
        rcases this with rfl | rfl | rfl
        · rw [if_pos (show nI 0 = 0 from rfl), lt1, if_neg (show ¬ nI 0 = 1 by decide), if_neg (show ¬ nI 0 = 2 by decide), gI_d, sI_o _ _ (by decide)]
        · rw [if_neg (show ¬ nI 1 = 0 by decide), if_pos (show nI 1 = 1 from rfl), lt1, if_neg (show ¬ nI 1 = 2 by decide), gI_d, sI_o _ _ (by decide)]
        · rw [if_neg (show ¬ nI 2 = 0 by decide), if_neg (show ¬ nI 2 = 1 by decide), if_pos (show nI 2 = 2 from rfl), lt1, gI_d, sI_o _ _ (by decide)]
      · rw [if_neg q7, if_neg q7]
  rw [lt1, if_neg (show ¬ nI k = 3 by rw [show (3 : Int32) = nI 3 from rfl, nI_eq (by omega) (by omega)]; omega), ii_e, bd_s, show (2 : Int32) = nI 2 from rfl, in_k (by omega) (by omega), if_neg z10]
  have : k = 0 ∨ k = 1 ∨ k = 2 := by omega
  rcases this with rfl | rfl | rfl
  · rw [if_pos (show nI 0 = 0 from rfl), gI_d, show (sI ν 78 0 0).1 78 24 = nI e from h0]
    exact go
  · rw [if_neg (show ¬ nI 1 = 0 by decide), if_pos (show nI 1 = 1 from rfl), gI_d, show (sI ν 78 0 0).1 78 25 = nI e from h0]
    exact go
  · rw [if_neg (show ¬ nI 2 = 0 by decide), if_neg (show ¬ nI 2 = 1 by decide), gI_d, show (sI ν 78 0 0).1 78 26 = nI e from h0]
    exact go
/-- a text that was told: what both have afterwards -/
def NEW (k e R : Nat) (μ ν μ' ν' : gs_M) : Prop := (1 ≤ R ∧ R ≤ 4 ∧ (k = 0 → R = 1)) ∧ (∀ b, b ≠ 1 → b ≠ 3 → b ≠ 4 → b ≠ 7 + 3 * k → b ≠ 8 + 3 * k → b ≠ 9 + 3 * k → μ'.1 b = μ.1 b) ∧ (∀ q, q ≠ 3 → μ'.1 (7 + 3 * k) q = μ.1 (7 + 3 * k) q) ∧ μ'.1 1 1 = 0 ∧ μ'.1 (7 + 3 * k) 3 = nI (e + 1) ∧ μ'.1 (8 + 3 * k) e = nI R ∧ (∀ q, q ≠ e → μ'.1 (8 + 3 * k) q = μ.1 (8 + 3 * k) q) ∧ (∀ q, q < 20 * e → μ'.1 (9 + 3 * k) q = μ.1 (9 + 3 * k) q) ∧ μ'.2 = μ.2 ∧ (∀ b, b ≠ 78 → b ≠ 83 + k → (k ≠ 0 → b ≠ 85 + k) → ν'.1 b = ν.1 b) ∧ (∀ j, j ≠ 0 → j ≠ 5 → j ≠ 6 → j ≠ 8 → j ≠ 9 → j ≠ 10 → j ≠ 11 → j ≠ 24 + k → ν'.1 78 j = ν.1 78 j) ∧ ν'.1 78 6 = 0 ∧ ν'.1 78 (24 + k) = nI (e + 1) ∧ (∀ j, j < WD k * e → ν'.1 (83 + k) j = ν.1 (83 + k) j) ∧ (k ≠ 0 → (∀ j, j < e → ν'.1 (85 + k) j = ν.1 (85 + k) j) ∧ ν'.1 (85 + k) e = nI R) ∧ ν'.2 = ν.2 ∧ (∀ r, r < R → ∀ j, j < NL k → μ'.1 (9 + 3 * k) (20 * e + 5 * r + j) = ν'.1 (83 + k) (WD k * e + 5 * r + j) ∧ VL k j (ν'.1 (83 + k) (WD k * e + 5 * r + j)))
theorem tx_e {i k e cap : Nat} {μ ν : gs_M} (hk : k ≤ 2) (hcap : cap = if k = 1 then 3 else 6) (he : e ≤ cap) (h3 : μ.1 (7 + 3 * k) 3 = nI e) (h0 : μ.1 (7 + 3 * k) 0 = nI cap) (h24 : ν.1 78 (24 + k) = nI e) (h : RT i μ ν) : ∃ (r : Int32) (μ' ν' : gs_M), D_X11_text (nI k) μ = some (r, μ') ∧ D_X12_text (nI k) ν = some (r, ν') ∧ eC μ μ' ∧ eM ν ν' ∧ (RT (i + 8) μ' ν' ∨ (e < cap ∧ ∃ R, NEW k e R μ ν μ' ν')) := by
  have cap6 : cap ≤ 6 := by rw [hcap]; split <;> omega
  have hT0 : RT i μ (sI ν 78 0 0) := h.go (Nat.le_refl _) kC.refl ⟨fun b hb => sI_n _ _ _ (by omega), fun j _ => by rw [sI_n _ _ _ (by decide)], fun j hj => sI_o _ _ (by omega), rfl, rfl⟩
  obtain ⟨f, μ1, ν1, t1, t2, t3, t4, t5⟩ := ft_e hk hT0.1
  have C1 : kC μ μ1 := kC_3 t3 t4
  have E1 : eC μ μ1 := fun b hb => ⟨t3 b (by omega) (by omega), by rw [t4]⟩
  have M1 : eM ν ν1 := (eM_0 ν).trans ((eM_0 _).trans t5.e)
  have R1 : RT (i + 8) μ1 (sI ν 78 0 0) := hT0.tab (by omega) C1 ⟨fun _ _ => rfl, fun _ _ => rfl, fun _ _ => rfl, rfl, fun _ _ => rfl, fun _ _ => rfl, fun _ _ => rfl, fun _ _ => rfl, fun _ _ => rfl⟩
  have R2 : RT (i + 8) μ1 ν1 := hT0.tab (by omega) C1 ((t5.t hk (Nat.le_refl _)).pre)
  have k3 : μ1.1 (7 + 3 * k) = μ.1 (7 + 3 * k) := t3 _ (by omega) (by omega)
  rw [tc_e hk, t1, bd_s, txm_e hk h24 (by omega), ← hcap]
  by_cases qf : f = -1
  · rw [if_pos qf]
    by_cases qe : e = cap
    · rw [if_pos qe, kp_o (e := e) (by omega) (by rw [k3]; exact h3) (by rw [k3, h0, qe]), bd_s, if_pos rfl]
      exact ⟨-1, μ1, _, rfl, rfl, E1, eM_0 ν, Or.inl R1⟩
    · rw [if_neg qe, t2, bd_s, if_pos qf]
      have hc1 : cT μ ν1 := (h.tab (i' := i) (by omega) kC.refl ((t5.t hk (Nat.le_refl _)).pre.pre)).1
      obtain ⟨f', R, μ1', ν2, u1, u2, u3, u4, u5, u6, u7⟩ := ra_e (x := e) hk (by rw [← hcap]; exact he) hc1
      rw [t1] at u1
      cases u1
      obtain ⟨g1, g2, g3, g4, g5, g6⟩ := u7 qf
      obtain ⟨μ2, v1, v2, v3, v4, v5, v6, v7, v8, v9⟩ := kp_i (a0 := 7 + 3 * k) (e := e) (cap := cap) (μ := μ1) (by omega) (by omega) cap6 (by rw [k3]; exact h3) (by rw [k3]; exact h0)
      have e24 : ν2.1 78 (24 + k) = nI e := by
        rw [u6.2.1 _ (by omega) (by omega) (by omega) (by omega) (by omega), t5.2.1 _ (by omega) (by omega) (by omega) (by omega) (by omega), sI_o _ _ (by omega), sI_o _ _ (by omega)]
        exact h24
      rw [v1, bd_s, if_neg (nI_nm1 (by omega)), u2, bd0_s, e24, nI_1]
      refine ⟨nI e, _, _, rfl, rfl, ?_, ?_, Or.inr ⟨by omega, R, ⟨g1, g2, g3⟩, ?_, ?_, ?_, ?_, ?_, ?_, ?_, ?_, ?_, ?_, ?_, ?_, ?_, ?_, ?_, ?_⟩⟩
      · intro b hb
        refine ⟨by rw [sI_n _ _ _ (by omega), v2 b (by omega) (by omega) (by omega)]; exact (E1 b hb).1, ?_⟩
        show μ2.2 b = μ.2 b
        rw [v9, t4]
      · intro b hb
        refine ⟨by rw [sI_n _ _ _ (by omega), sI_n _ _ _ (by omega), (u6.e b hb).1]; exact (M1 b hb).1, ?_⟩
        show ν2.2 b = ν.2 b
        rw [u6.2.2.2.2, t5.2.2.2.2]
        rfl
      · intro b b1 b2 b3 b4 b5 b6
        rw [sI_n _ _ _ b1, v2 b b4 (by omega) (by omega), t3 b b2 b3]
      · intro q hq
        rw [sI_n _ _ _ (by omega), v3 q hq, k3]
      · exact sI_u _ _ _ _
      · rw [sI_n _ _ _ (by omega)]; exact v4
      · rw [sI_n _ _ _ (by omega), show 8 + 3 * k = 7 + 3 * k + 1 by omega, v5]
        exact g4
      · intro q hq
        rw [sI_n _ _ _ (by omega), show 8 + 3 * k = 7 + 3 * k + 1 by omega, v6 q hq, t3 _ (by omega) (by omega)]
      · intro q hq
        rw [sI_n _ _ _ (by omega), show 9 + 3 * k = 7 + 3 * k + 2 by omega, v8 q hq, t3 _ (by omega) (by omega)]
      · show μ2.2 = μ.2
        rw [v9, t4]
      · intro b b1 b2 b3
        rw [sI_n _ _ _ b1, sI_n _ _ _ b1, u6.1 b b1 b2 b3, t5.1 b b1 b2 b3, sI_n _ _ _ b1, sI_n _ _ _ b1]
      · intro j j0 j1 j2 j3 j4 j5 j6 j7
        rw [sI_o _ _ j7, sI_o _ _ j2, u6.2.1 j j1 j3 j4 j5 j6, t5.2.1 j j1 j3 j4 j5 j6, sI_o _ _ j0, sI_o _ _ j0]
      · rw [sI_o _ _ (by omega), sI_u]
      · exact sI_u _ _ _ _
      · intro j hj
        have hW : WD k * e ≤ WD k * cap := Nat.mul_le_mul_left _ he
        rw [sI_n _ _ _ (by omega), sI_n _ _ _ (by omega), u6.2.2.1 j (Or.inl hj), t5.2.2.1 j (Or.inl (by rw [← hcap]; omega)), sI_n _ _ _ (by omega), sI_n _ _ _ (by omega)]
      · intro k0
        refine ⟨fun j hj => ?_, ?_⟩
        · rw [sI_n _ _ _ (by omega), sI_n _ _ _ (by omega), u6.2.2.2.1 k0 j (by omega), t5.2.2.2.1 k0 j (by rw [← hcap]; omega), sI_n _ _ _ (by omega), sI_n _ _ _ (by omega)]
        · rw [sI_n _ _ _ (by omega), sI_n _ _ _ (by omega)]
          exact g5 k0
      · show ν2.2 = ν.2
        rw [u6.2.2.2.2, t5.2.2.2.2]
        rfl
      · intro r hr j hj
        have hN := NL5 k
        rw [sI_n _ _ _ (by omega), sI_n _ _ _ (by omega), sI_n _ _ _ (by omega), show 9 + 3 * k = 7 + 3 * k + 2 by omega, show 20 * e + 5 * r + j = 20 * e + (5 * r + j) by omega, v7 (5 * r + j) (by omega)]
        exact g6 r hr j hj
  · rw [if_neg qf]
    by_cases qe : e = cap
    · rw [if_pos qe]
      exact ⟨-1, μ1, _, rfl, rfl, E1, eM_0 ν, Or.inl R1⟩
    · rw [if_neg qe, t2, bd_s, if_neg qf]
      exact ⟨-1, μ1, ν1, rfl, rfl, E1, M1, Or.inl R2⟩
