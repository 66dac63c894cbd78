/-! ships and plans as told -/
theorem has_e {μ : gs_M} {a N : Nat} {x : Int32} (h : μ.1 a 3 = nI N) (hN : N ≤ 6) : (D_X9_has a x μ = some (0, μ) ∧ (x < 0 ∨ nI N ≤ x)) ∨ ∃ e, e < N ∧ x = nI e ∧ D_X9_has a x μ = some (1, μ) := by
  unfold D_X9_has B_X9_has_16
  rw [gI_d, h]
  rcases pk_ix x (show N < 2 ^ 31 by omega) with q | q | ⟨e, he, rfl⟩
  · exact Or.inl ⟨by rw [if_pos q], Or.inl q⟩
  · refine Or.inl ⟨?_, Or.inr q⟩
    by_cases z : x < 0
    · rw [if_pos z]
    · rw [if_neg z, if_pos q]
  · exact Or.inr ⟨e, he, rfl, by rw [if_neg (nI_pos (by omega)), if_neg (nI_ge he (by omega))]⟩
theorem has1 {μ : gs_M} {a N e : Nat} (h : μ.1 a 3 = nI N) (he : e < N) (hN : N ≤ 6) : D_X9_has a (nI e) μ = some (1, μ) := by
  unfold D_X9_has
  rw [gI_d, h, if_neg (nI_pos (by omega)), if_neg (nI_ge he (by omega))]
theorem rows_e {μ : gs_M} {a N e : Nat} (h : μ.1 a 3 = nI N) (he : e < N) (hN : N ≤ 6) : D_X9_rowsOf a (nI e) μ = some (μ.1 (a + 1) e, μ) := by
  unfold D_X9_rowsOf
  rw [has1 h he hN, bd_s, if_neg z10, inb_n (show e < 6 by omega) (by decide), ck_t, nI_clamp (by omega), gI_d]
theorem ix5 (e k j : Nat) : ((nI e * 4 + nI k) * 5) + nI j = nI (20 * e + 5 * k + j) := by
  rw [show (4 : Int32) = nI 4 from rfl, show (5 : Int32) = nI 5 from rfl, pk_mul, nI_add, pk_mul, nI_add]
  congr 1
  omega
theorem ix5m (e k j : Nat) : 5 * (4 * nI e + nI k) + nI j = nI (20 * e + 5 * k + j) := by
  rw [show (4 : Int32) = nI 4 from rfl, show (5 : Int32) = nI 5 from rfl, pk_mul, nI_add, pk_mul, nI_add]
  congr 1
  omega
theorem num_e {μ : gs_M} {a N e r k j : Nat} (h : μ.1 a 3 = nI N) (he : e < N) (hN : N ≤ 6) (hr : μ.1 (a + 1) e = nI r) (hr4 : r ≤ 4) (hk : k < r) (hj : j < 5) : D_X9_number a (nI e) (nI k) (nI j) μ = some (μ.1 (a + 2) (20 * e + 5 * k + j), μ) := by
  unfold D_X9_number
  rw [has1 h he hN, bd_s, if_neg z10, if_neg (nI_pos (by omega)), inb_n (show e < 6 by omega) (by decide), ck_t, nI_clamp (by omega), gI_d, hr, if_neg (nI_ge hk (by omega)), wi_e, bd_s, inN_y (by rw [nI_toInt (by omega)]; show (0 : Int) ≤ _; omega) (by rw [nI_toInt (by omega)]; show _ ≤ (4 : Int); omega), if_neg z10, ix5, inb_n (show 20 * e + 5 * k + j < 120 by omega) (by decide), ck_t, nI_clamp (by omega), gI_d]
theorem num_x {μ : gs_M} {a N e r : Nat} {x2 x3 : Int32} (h : μ.1 a 3 = nI N) (he : e < N) (hN : N ≤ 6) (hr : μ.1 (a + 1) e = nI r) (hx : x2 < 0 ∨ nI r ≤ x2) : D_X9_number a (nI e) x2 x3 μ = some (-1, μ) := by
  unfold D_X9_number
  rw [has1 h he hN, bd_s, if_neg z10, inb_n (show e < 6 by omega) (by decide), ck_t, nI_clamp (by omega), gI_d, hr]
  by_cases z : x2 < 0
  · rw [if_pos z]
  · rw [if_neg z, if_pos (hx.resolve_left z)]
theorem hOf {ν : gs_M} {e k j : Nat} (he : e < 4) (hk : k < 4) (hj : j < 5) : D_X12_holdOf (nI e) (nI k) (nI j) ν = some (ν.1 84 (20 * e + 5 * k + j), ν) := by
  unfold D_X12_holdOf
  rw [ix5m, inb_n (show 20 * e + 5 * k + j < 80 by omega) (by decide), ck_t, nI_clamp (by omega), gI_d]
theorem lOf {ν : gs_M} {e k j : Nat} (he : e < 7) (hk : k < 4) (hj : j < 5) : D_X12_layingOf (nI e) (nI k) (nI j) ν = some (ν.1 85 (20 * e + 5 * k + j), ν) := by
  unfold D_X12_layingOf
  rw [ix5m, inb_n (show 20 * e + 5 * k + j < 140 by omega) (by decide), ck_t, nI_clamp (by omega), gI_d]
theorem isS_e {ν : gs_M} {N : Nat} {x : Int32} (h : ν.1 78 25 = nI N) (hx : x < 0 ∨ nI N ≤ x) : D_X12_isShip x ν = some (0, ν) := by
  unfold D_X12_isShip B_X12_isShip_16
  rw [gI_d, h]
  by_cases z : x < 0
  · rw [if_pos z]
  · rw [if_neg z, if_pos (hx.resolve_left z)]
theorem isS_1 {ν : gs_M} {N e : Nat} (h : ν.1 78 25 = nI N) (he : e < N) (hN : N ≤ 6) : D_X12_isShip (nI e) ν = some (1, ν) := by
  unfold D_X12_isShip
  rw [gI_d, h, if_neg (nI_pos (by omega)), if_neg (nI_ge he (by omega))]
theorem isP_e {ν : gs_M} {N : Nat} {x : Int32} (h : ν.1 78 26 = nI N) (hx : x < 0 ∨ nI N ≤ x) : D_X12_isPlan x ν = some (0, ν) := by
  unfold D_X12_isPlan B_X12_isPlan_16
  rw [gI_d, h]
  by_cases z : x < 0
  · rw [if_pos z]
  · rw [if_neg z, if_pos (hx.resolve_left z)]
theorem isP_1 {ν : gs_M} {N e : Nat} (h : ν.1 78 26 = nI N) (he : e < N) (hN : N ≤ 6) : D_X12_isPlan (nI e) ν = some (1, ν) := by
  unfold D_X12_isPlan
  rw [gI_d, h, if_neg (nI_pos (by omega)), if_neg (nI_ge he (by omega))]
theorem isU_e {ν : gs_M} {N : Nat} {x : Int32} (h : ν.1 78 24 = nI N) (hx : x < 0 ∨ nI N ≤ x) : D_X12_isStuff x ν = some (0, ν) := by
  unfold D_X12_isStuff B_X12_isStuff_16
  rw [gI_d, h]
  by_cases z : x < 0
  · rw [if_pos z]
  · rw [if_neg z, if_pos (hx.resolve_left z)]
theorem isU_1 {ν : gs_M} {N e : Nat} (h : ν.1 78 24 = nI N) (he : e < N) (hN : N ≤ 6) : D_X12_isStuff (nI e) ν = some (1, ν) := by
  unfold D_X12_isStuff
  rw [gI_d, h, if_neg (nI_pos (by omega)), if_neg (nI_ge he (by omega))]
theorem k_ship {i : Nat} (y0 y1 y2 : Int32) : CALLS i (D_X11_ship y0 y1 y2) (D_X12_ship y0 y1 y2) := by
  intro μ ν0 h0
  obtain ⟨ν, hν, h, he⟩ := th_e h0
  have h' := h
  obtain ⟨h1, ⟨st, h2, h3, h4⟩, ⟨sh, h5⟩, ⟨pl, h6⟩, h7, h8, h9, h10, h11, h12⟩ := h'
  obtain ⟨N6, e1, e0, e2, e3⟩ := h5
  unfold D_X11_ship D_X12_ship B_X12_ship_40
  simp only [lt1, ← hν, wi_e, ii_e, bd_s]
  rcases has_e (x := y0) e1 (by omega) with ⟨q1, q2⟩ | ⟨e, hee, rfl, q1⟩
  · exact fin_e (r := -1) h he (by rw [q1, bd_s, if_pos rfl]) (by rw [isS_e e2 q2, bd_s, if_pos rfl])
  · rw [q1, bd_s, if_neg z10, isS_1 e2 hee (by omega), bd_s, if_neg z10]
    obtain ⟨r, r1, r2, r3, r4, r5⟩ := e3 e hee
    rw [inb_n (show e < 4 by omega) (by decide), ck_t, ck_t, nI_clamp (by omega), gI_d, r4]
    have hm : ∀ (j : Nat) (x : Int32), j < 2 → ∃ v, D_X9_number 10 (nI e) x (nI j) μ = some (v, μ) ∧ (if inN x 0 (nI r - 1) = 0 then some ((-1 : Int32), ν) else bd (D_X12_holdOf (nI e) x (nI j) ν) (fun v8 u7 => some (v8, u7))) = some (v, ν) := by
      intro j x hj
      rcases inN_n (x := x) (n := r) (by omega) (by omega) with ⟨z, z1⟩ | ⟨k, hk, rfl, z1⟩
      · exact ⟨-1, num_x e1 hee (by omega) r3 z, by rw [z1, if_pos rfl]⟩
      · refine ⟨ν.1 84 (20 * e + 5 * k + j), ?_, ?_⟩
        · rw [num_e e1 hee (by omega) r3 r2 hk (by omega), (r5 k hk).1 j hj]
        · rw [z1, if_neg z10, hOf (by omega) (by omega) (by omega), bd_s]
    by_cases k1 : y1 = -1
    · rw [if_pos k1, if_pos k1]
      by_cases k2 : y2 = 0
      · refine fin_e (r := nI r) h he ?_ ?_
        · rw [if_pos k2, rows_e e1 hee (by omega), bd_s, r3]
        · rw [k2, show inN 0 0 1 = 1 by decide, if_neg z10, if_pos rfl]
      · refine fin_e (r := -1) h he (by rw [if_neg k2]) ?_
        rw [if_neg k2]
        rcases inN_k y2 (lo := 0) (hi := 1) (L := 0) (H := 1) (by decide) (by decide) with z | ⟨z, a0, b0⟩
        · rw [z, if_pos rfl]
        · rw [z, if_neg z10, k1, inN_z (x := -1) (lo := 0) (Or.inl (by decide)), if_pos rfl]
    · rw [if_neg k1, if_neg k1]
      rcases inN_k y2 (lo := 0) (hi := 1) (L := 0) (H := 1) (by decide) (by decide) with z | ⟨z, a0, b0⟩
      · exact fin_e (r := -1) h he (by rw [z, if_pos rfl]) (by rw [z, if_pos rfl])
      · obtain ⟨j, j1, rfl⟩ := ti_nat (x := y2) (m := 1) (by omega) (by omega)
        obtain ⟨v, v1, v2⟩ := hm j y1 (by omega)
        exact fin_e (r := v) h he (by rw [z, if_neg z10, v1, bd_s]) (by rw [z, if_neg z10]; exact v2)
theorem k_plan {i : Nat} (y0 y1 y2 : Int32) : CALLS i (D_X11_plan y0 y1 y2) (D_X12_plan y0 y1 y2) := by
  intro μ ν0 h0
  obtain ⟨ν, hν, h, he⟩ := th_e h0
  have h' := h
  obtain ⟨h1, ⟨st, h2, h3, h4⟩, ⟨sh, h5⟩, ⟨pl, h6⟩, h7, h8, h9, h10, h11, h12⟩ := h'
  obtain ⟨N6, e1, e0, e2, e3⟩ := h6
  unfold D_X11_plan D_X12_plan B_X12_plan_40
  simp only [lt1, ← hν, wi_e, ii_e, bd_s]
  rcases has_e (x := y0) e1 (by omega) with ⟨q1, q2⟩ | ⟨e, hee, rfl, q1⟩
  · exact fin_e (r := -1) h he (by rw [q1, bd_s, if_pos rfl]) (by rw [isP_e e2 q2, bd_s, if_pos rfl])
  · rw [q1, bd_s, if_neg z10, isP_1 e2 hee (by omega), bd_s, if_neg z10]
    obtain ⟨r, r1, r2, r3, r4, r5⟩ := e3 e hee
    rw [inb_n (show e < 7 by omega) (by decide), ck_t, ck_t, nI_clamp (by omega), gI_d, r4]
    have hm : ∀ (j : Nat) (x : Int32), j < 5 → ∃ v, D_X9_number 13 (nI e) x (nI j) μ = some (v, μ) ∧ (if inN x 0 (nI r - 1) = 0 then some ((-1 : Int32), ν) else bd (D_X12_layingOf (nI e) x (nI j) ν) (fun v8 u7 => some (v8, u7))) = some (v, ν) := by
      intro j x hj
      rcases inN_n (x := x) (n := r) (by omega) (by omega) with ⟨z, z1⟩ | ⟨k, hk, rfl, z1⟩
      · exact ⟨-1, num_x e1 hee (by omega) r3 z, by rw [z1, if_pos rfl]⟩
      · refine ⟨ν.1 85 (20 * e + 5 * k + j), ?_, ?_⟩
        · rw [num_e e1 hee (by omega) r3 r2 hk (by omega), (r5 k hk).1 j hj]
        · rw [z1, if_neg z10, lOf (by omega) (by omega) (by omega), bd_s]
    by_cases k1 : y1 = -1
    · rw [if_pos k1, if_pos k1]
      by_cases k2 : y2 = 0
      · refine fin_e (r := nI r) h he ?_ ?_
        · rw [if_pos k2, rows_e e1 hee (by omega), bd_s, r3]
        · rw [k2, show inN 0 0 4 = 1 by decide, if_neg z10, if_pos rfl]
      · refine fin_e (r := -1) h he (by rw [if_neg k2]) ?_
        rw [if_neg k2]
        rcases inN_k y2 (lo := 0) (hi := 4) (L := 0) (H := 4) (by decide) (by decide) with z | ⟨z, a0, b0⟩
        · rw [z, if_pos rfl]
        · rw [z, if_neg z10, k1, inN_z (x := -1) (lo := 0) (Or.inl (by decide)), if_pos rfl]
    · rw [if_neg k1, if_neg k1]
      rcases inN_k y2 (lo := 0) (hi := 4) (L := 0) (H := 4) (by decide) (by decide) with z | ⟨z, a0, b0⟩
      · exact fin_e (r := -1) h he (by rw [z, if_pos rfl]) (by rw [z, if_pos rfl])
      · obtain ⟨j, j1, rfl⟩ := ti_nat (x := y2) (m := 4) (by omega) (by omega)
        obtain ⟨v, v1, v2⟩ := hm j y1 (by omega)
        exact fin_e (r := v) h he (by rw [z, if_neg z10, v1, bd_s]) (by rw [z, if_neg z10]; exact v2)
/-- a ship and a plan of as many holds -/
def sPr (μ ν : gs_M) (s p r : Nat) : Prop := ∃ sh pl, sh ≤ 3 ∧ pl ≤ 6 ∧ s < sh ∧ p < pl ∧ μ.1 10 3 = nI sh ∧ μ.1 13 3 = nI pl ∧ ν.1 78 25 = nI sh ∧ ν.1 78 26 = nI pl ∧ hR μ ν s r ∧ pR μ ν p r
def csT (ν : gs_M) (s p : Nat) (fit bo sa : Int32) (k : Nat) : Int32 := (3 * (if nI k = fit then bo else ν.1 85 (20 * p + 5 * k + 3)) + 20 * ν.1 84 (20 * s + 5 * k) * (if nI k = fit then sa else ν.1 85 (20 * p + 5 * k + 4)))
def csN (ν : gs_M) (s p : Nat) (fit bo sa : Int32) : Nat → Int32
  | 0 => 0
  | k + 1 => csN ν s p fit bo sa k + csT ν s p fit bo sa k + (if ν.1 85 (20 * p + 5 * k + 2) = 1 then ν.1 85 (20 * p + 5 * k + 1) else 0)
theorem mcost_loop {ν : gs_M} {s p r : Nat} {fit bo sa : Int32} (hs : s < 4) (hp : p < 7) (hr : r ≤ 4) (h86 : ν.1 86 s = nI r) : ∀ (m k fu : Nat), k + m = r → m < fu → L_X12_costOf_6 fu (nI s) (nI p) fit bo sa (csN ν s p fit bo sa k) (nI k) ν = some (csN ν s p fit bo sa r, ν) := by
  intro m
  induction m with
  | zero =>
    intro k fu hk hf
    obtain ⟨fu, rfl⟩ : ∃ m, fu = m + 1 := ⟨fu - 1, by omega⟩
    obtain rfl : k = r := by omega
    show Bo_X12_costOf_6 _ _ _ _ _ _ _ _ _ = _
    unfold Bo_X12_costOf_6
    rw [inb_n hs (by decide), ck_t, nI_clamp (by omega), gI_d, h86, if_pos (nI_le (Nat.le_refl _) (by omega))]
  | succ m ih =>
    intro k fu hk hf
    obtain ⟨fu, rfl⟩ : ∃ m, fu = m + 1 := ⟨fu - 1, by omega⟩
    rw [← ih (k + 1) fu (by omega) (by omega)]
    have l0 := hOf (ν := ν) hs (show k < 4 by omega) (show 0 < 5 by decide)
    have l1 := lOf (ν := ν) hp (show k < 4 by omega) (show 1 < 5 by decide)
    have l2 := lOf (ν := ν) hp (show k < 4 by omega) (show 2 < 5 by decide)
    have l3 := lOf (ν := ν) hp (show k < 4 by omega) (show 3 < 5 by decide)
    have l4 := lOf (ν := ν) hp (show k < 4 by omega) (show 4 < 5 by decide)
    rw [show nI 0 = (0 : Int32) from rfl, Nat.add_zero] at l0
    rw [show nI 1 = (1 : Int32) from rfl] at l1
    rw [show nI 2 = (2 : Int32) from rfl] at l2
    rw [show nI 3 = (3 : Int32) from rfl] at l3
    rw [show nI 4 = (4 : Int32) from rfl] at l4
    have eN : csN ν s p fit bo sa (k + 1) = csN ν s p fit bo sa k + csT ν s p fit bo sa k + (if ν.1 85 (20 * p + 5 * k + 2) = 1 then ν.1 85 (20 * p + 5 * k + 1) else 0) := rfl
    rw [eN]
    show Bo_X12_costOf_6 _ _ _ _ _ _ _ _ _ = _
    unfold Bo_X12_costOf_6 B_X12_costOf_39 B_X12_costOf_70 csT
    rw [inb_n hs (by decide), ck_t, nI_clamp (by omega), gI_d, h86, if_neg (nI_ge (show k < r by omega) (by omega))]
    simp only [l0, l1, l2, l3, l4, bd_s, lt1, nI_1]
    by_cases z : nI k = fit
    · simp only [if_pos z]
      by_cases z2 : ν.1 85 (20 * p + 5 * k + 2) = 1
      · rw [if_pos z2, if_pos z2]
      · rw [if_neg z2, if_neg z2]
    · simp only [if_neg z]
      by_cases z2 : ν.1 85 (20 * p + 5 * k + 2) = 1
      · rw [if_pos z2, if_pos z2]
      · rw [if_neg z2, if_neg z2]
