/-! a whole row, its usual values first -/
theorem uc_loop {k row : Nat} (hk : k ≤ 2) (hrow : row < 4) : ∀ (m j fu : Nat) (μ : gs_M), j + m = 5 → m < fu → μ.1 3 5 = nI k → ∃ μ', L_X2_readRow_2 fu (nI row) (nI j) μ = L_X2_readRow_42 4096 (nI row) 0 1 0 μ' ∧ IC row μ μ' ∧ μ'.1 3 = μ.1 3 ∧ (∀ i, j ≤ i → i < 5 → μ'.1 4 (5 * row + i) = cA 3 (5 * k + i)) ∧ (∀ i, i < j → μ'.1 4 (5 * row + i) = μ.1 4 (5 * row + i)) := by
  intro m
  induction m with
  | zero =>
    intro j fu μ hj hf h5
    obtain ⟨fu, rfl⟩ : ∃ m, fu = m + 1 := ⟨fu - 1, by omega⟩
    refine ⟨μ, ?_, IC.refl, rfl, fun i i1 i2 => by omega, fun _ _ => rfl⟩
    show Bo_X2_readRow_2 _ _ _ _ = _
    unfold Bo_X2_readRow_2
    rw [if_pos (show (5 : Int32) ≤ nI j by rw [show (5 : Int32) = nI 5 from rfl]; exact nI_le (by omega) (by omega))]
  | succ m ih =>
    intro j fu μ hj hf h5
    obtain ⟨fu, rfl⟩ : ∃ m, fu = m + 1 := ⟨fu - 1, by omega⟩
    obtain ⟨μ', t1, t2, t3, t4, t5⟩ := ih (j + 1) fu (sI μ 4 (5 * row + j) (cA 3 (5 * k + j))) (by omega) (by omega) (by rw [sI_n _ _ _ (by decide)]; exact h5)
    refine ⟨μ', ?_, (IC.s (by omega)).trans t2, by rw [t3, sI_n _ _ _ (by decide)], ?_, ?_⟩
    · show Bo_X2_readRow_2 _ _ _ _ = _
      unfold Bo_X2_readRow_2
      rw [if_neg (show ¬ (5 : Int32) ≤ nI j by rw [show (5 : Int32) = nI 5 from rfl]; exact nI_ge (by omega) (by omega)), gI_d, h5, ixr_e (by omega) (by omega), ixr_e hrow (by omega), inb_n (by omega) (by decide), ck_t, inb_n (by omega) (by decide), ck_t, nI_clamp (by omega), nI_clamp (by omega), lt1, nI_1]
      exact t1
    · intro i i1 i2
      by_cases q : i = j
      · subst q
        rw [t5 i (by omega), sI_u]
      · exact t4 i (by omega) i2
    · intro i i1
      rw [t5 i (by omega), sI_o _ _ (by omega)]
theorem um_loop {k a2 x3 : Nat} (hk : k ≤ 2) (ha : 83 ≤ a2) (hx : x3 + 5 ≤ ln a2) (hl : ln a2 < 2 ^ 31) : ∀ (m j fu : Nat) (ν : gs_M), j + m = NL k → m < fu → ∃ ν', L_X12_readItems_11 fu a2 (nI x3) (107 + k) (nI j) ν = L_X12_readItems_49 4096 a2 (nI x3) (107 + k) 0 1 ν' ∧ IM a2 x3 (x3 + 5) ν ν' ∧ ν'.1 78 = ν.1 78 ∧ (∀ i, j ≤ i → i < NL k → ν'.1 a2 (x3 + i) = cA 3 (5 * k + i)) ∧ (∀ i, i < j → ν'.1 a2 (x3 + i) = ν.1 a2 (x3 + i)) := by
  have e : gs_sl.getD (107 + k - 105) 0 = NL k := by
    have : k = 0 ∨ k = 1 ∨ k = 2 := by omega
    rcases this with rfl | rfl | rfl <;> rfl
  have hN := NL5 k
  intro m
  induction m with
  | zero =>
    intro j fu ν hj hf
    obtain ⟨fu, rfl⟩ : ∃ m, fu = m + 1 := ⟨fu - 1, by omega⟩
    refine ⟨ν, ?_, IM.refl, rfl, fun i i1 i2 => by omega, fun _ _ => rfl⟩
    show Bo_X12_readItems_11 _ _ _ _ _ _ = _
    unfold Bo_X12_readItems_11
    rw [e, if_pos (nI_le (by omega) (by omega))]
  | succ m ih =>
    intro j fu ν hj hf
    obtain ⟨fu, rfl⟩ : ∃ m, fu = m + 1 := ⟨fu - 1, by omega⟩
    obtain ⟨ν', t1, t2, t3, t4, t5⟩ := ih (j + 1) fu (sI ν a2 (x3 + j) (cA 3 (5 * k + j))) (by omega) (by omega)
    refine ⟨ν', ?_, (IM.s (by omega) (by omega) (by omega)).trans t2, by rw [t3, sI_n _ _ _ (by omega)], ?_, ?_⟩
    · show Bo_X12_readItems_11 _ _ _ _ _ _ = _
      unfold Bo_X12_readItems_11
      rw [e, if_neg (nI_ge (by omega) (by omega)), inb_n (by omega) (by omega), ck_t, nI_clamp (by omega), show 107 + k - 105 = 2 + k by omega, us_e hk (by omega), bd_s, nI_add, inb_n (by omega) hl, ck_t, nI_clamp (by omega), lt1, nI_1]
      exact t1
    · intro i i1 i2
      by_cases q : i = j
      · subst q
        rw [t5 i (by omega), sI_u]
      · exact t4 i (by omega) i2
    · intro i i1
      rw [t5 i (by omega), sI_o _ _ (by omega)]
theorem rr_e {k row n a2 x3 : Nat} {μ ν : gs_M} (hk : k ≤ 2) (hrow : row < 4) (ha : 83 ≤ a2) (hx : x3 + 5 ≤ ln a2) (hl : ln a2 < 2 ^ 31) (hT : TX 79 0 n μ ν) (hS : SX 3 n μ ν) (h5 : μ.1 3 5 = nI k) : ∃ (μ' ν' : gs_M), D_X2_readRow (nI row) μ = some μ' ∧ D_X12_readItems (nI k) a2 (nI x3) ν = some ν' ∧ IC row μ μ' ∧ IM a2 x3 (x3 + 5) ν ν' ∧ (FX 3 n μ' ν' ∨ (SX 3 n μ' ν' ∧ RW k row a2 x3 μ' ν')) := by
  obtain ⟨μ1, t1, t2, t3, t4, -⟩ := uc_loop hk hrow 5 0 4096 μ (by omega) (by omega) h5
  obtain ⟨ν1, u1, u2, u3, u4, -⟩ := um_loop hk ha hx hl (NL k) 0 4096 ν (by omega) (by have := NL5 k; omega)
  have hN := NL5 k
  obtain ⟨p, hA, h1, h2⟩ := hS
  have hS1 : SX 3 n μ1 ν1 := ⟨p, ⟨hA.1, by rw [t3]; exact hA.2.1, by rw [u3]; exact hA.2.2⟩, by rw [t3]; exact h1, by rw [u3]; exact h2⟩
  have hR : RW k row a2 x3 μ1 ν1 := by
    intro j hj
    rw [t4 j (by omega) (by omega), u4 j (by omega) hj]
    have := us_v ⟨k, by omega⟩ ⟨j, by omega⟩
    exact ⟨rfl, this.1, this.2⟩
  obtain ⟨μ', ν', v1, v2, v3, v4, v5⟩ := row_loop hk hrow ha hx hl 6 0 4096 4096 μ1 ν1 (by omega) (by decide) (by omega) (by omega) (hT.i ha t2 u2) hS1 (by rw [t3]; exact h5) hR
  refine ⟨μ', ν', t1.trans v1, ?_, t2.trans v3, u2.trans v4, v5⟩
  unfold D_X12_readItems
  rw [inb_n (show k < 3 by omega) (by decide), ck_t, nI_clamp (by omega)]
  exact u1.trans v2
/-! the end of a text -/
theorem fn_f {a0 B b0 n : Nat} {μ ν : gs_M} (ha : a0 = 3 ∨ a0 = 5) (hT : TX B b0 n μ ν) (hF : FX a0 n μ ν) : ∃ q μ'', q ≤ 160 ∧ ν.1 78 11 = nI q ∧ D_X4_finish a0 μ = some (nI q, μ'') ∧ RC a0 μ μ'' := by
  obtain ⟨q, p, h1, h2, h3, h4, h5⟩ := hF
  have hT' : TX B b0 n μ (sI ν 78 10 (nI p)) := hT.r (a0 := a0) ha RC.refl (RM.s (Or.inl rfl))
  obtain ⟨g, p', μ1, ν1, t0, t1, t2, t3, t4, t5, t6, t7, t8⟩ := nx_e ha hT' ⟨h2, h5, sI_u _ _ _ _⟩
  refine ⟨q, μ1, h1, h4, ?_, t4⟩
  unfold D_X4_finish
  have e : D_X4_failAt a0 (gI μ1 a0 1) μ1 = some μ1 := by
    unfold D_X4_failAt
    rw [gI_d μ1 a0 2, t6, h3, if_neg (nI_nm1 (by omega))]
  rw [t1, bd_s, e, bd0_s, gI_d, t6, h3]
  split <;> rfl
theorem fn_s {a0 B b0 n : Nat} {μ ν : gs_M} (ha : a0 = 3 ∨ a0 = 5) (hT : TX B b0 n μ ν) (hS : SX a0 n μ ν) : ∃ (f : Int32) (μ'' ν'' : gs_M), D_X4_finish a0 μ = some (f, μ'') ∧ B_X12_read_78 ν = some ν'' ∧ B_X12_goThrough_66 ν = some ν'' ∧ ν''.1 78 11 = f ∧ (f = -1 ∨ ∃ q, q ≤ 160 ∧ f = nI q) ∧ RC a0 μ μ'' ∧ RM ν ν'' := by
  obtain ⟨p, hA, h1, h2⟩ := hS
  obtain ⟨g, p', μ1, ν1, t0, t1, t2, t3, t4, t5, t6, t7, t8⟩ := nx_e ha hT hA
  obtain ⟨F1, F2, F3⟩ := fx_e hT.1 t3 (t6.trans h1) (t7.trans h2)
  unfold D_X4_finish B_X12_read_78 B_X12_goThrough_66
  rw [t1, bd_s, gI_d ν 78 11, if_pos h2, t2, bd_s, gI_d μ1 a0 2, t6, h1, gI_d μ1 a0 1, t3.2.1, F1, bd0_s, F2, bd_s, gI_d, sI_u]
  by_cases q : g = -1
  · rw [if_pos q, if_pos q]
    exact ⟨-1, μ1, ν1, rfl, rfl, rfl, t7.trans h2, Or.inl rfl, t4, t5⟩
  · rw [if_neg q, if_neg q]
    exact ⟨nI p', _, _, rfl, rfl, rfl, sI_u _ _ _ _, Or.inr ⟨p', by have := t3.1; have := hT.1; omega, rfl⟩, t4.trans (RC.s (Or.inr rfl)), t5.trans (RM.s (Or.inr rfl))⟩
theorem fn_m {ν : gs_M} {q : Nat} (hq : q ≤ 160) (h : ν.1 78 11 = nI q) : B_X12_read_78 ν = some ν ∧ B_X12_goThrough_66 ν = some ν := by
  unfold B_X12_read_78 B_X12_goThrough_66
  rw [gI_d, h, if_neg (nI_nm1 (by omega))]
  exact ⟨rfl, rfl⟩
theorem nx_id {a0 B b0 n p : Nat} {g : Int32} {μ ν : gs_M} (hT : TX B b0 n μ ν) (hp : μ.1 a0 1 = nI p) (h : (p = n ∧ g = -1) ∨ (p < n ∧ ∃ s, 1 ≤ s ∧ s ≤ 255 ∧ s ≠ 32 ∧ g = nI s ∧ μ.1 2 p = nI s)) : D_X4_next a0 μ = some (g, μ) := by
  have h160 := hT.1
  show Bo_X4_next_0 _ _ _ = _
  unfold Bo_X4_next_0 B_X4_next_39
  rcases h with ⟨rfl, rfl⟩ | ⟨hpn, s, s1, s2, s3, rfl, s4⟩
  · have e1 := sa_o hT (Nat.le_refl p) (by omega)
    rw [gI_d, hp, e1, bd_s, bd_s, if_neg (show ¬ (-1 : Int32) = 32 by decide), gI_d, hp, e1, bd_s]
    split <;> rfl
  · have e1 := sa_e hT hpn
    rw [gI_d, hp, e1, bd_s, bd_s, s4, if_neg (show ¬ nI s = (32 : Int32) from fun e => s3 ((nI_eq (b := 32) (by omega) (by omega)).mp e)), gI_d, hp, e1, bd_s, s4]
    split <;> rfl
theorem fi_id {a0 B b0 n p p' : Nat} {g : Int32} {μ ν μ' ν' : gs_M} (ha : a0 = 3 ∨ a0 = 5) (hT : TX B b0 n μ ν) (hA : AT a0 n p' μ' ν') (hc : RC a0 μ μ') (hm : RM ν ν') (t1 : D_X4_next a0 μ = some (g, μ')) (h : (p' = n ∧ g = -1) ∨ (p' < n ∧ ∃ s, 1 ≤ s ∧ s ≤ 255 ∧ s ≠ 32 ∧ g = nI s ∧ μ.1 2 p' = nI s ∧ ν.1 B (b0 + p') = by8 s)) : D_X4_finish a0 μ = D_X4_finish a0 μ' := by
  unfold D_X4_finish
  rw [t1, nx_id (hT.r ha hc hm) hA.2.1 (h.imp id fun ⟨q1, s, s1, s2, s3, s4, s5, _⟩ => ⟨q1, s, s1, s2, s3, s4, by rw [hc.1 2 (by omega)]; exact s5⟩)]
/-! rows -/
def JC (μ μ' : gs_M) : Prop := (∀ b, b ≠ 3 → b ≠ 4 → μ'.1 b = μ.1 b) ∧ μ'.1 3 5 = μ.1 3 5 ∧ μ'.2 = μ.2
theorem JC.trans {μ0 μ1 μ2 : gs_M} (h : JC μ0 μ1) (g : JC μ1 μ2) : JC μ0 μ2 := ⟨fun b b1 b2 => (g.1 b b1 b2).trans (h.1 b b1 b2), g.2.1.trans h.2.1, g.2.2.trans h.2.2⟩
theorem IC.jc {row : Nat} {μ μ' : gs_M} (h : IC row μ μ') : JC μ μ' := ⟨h.1, h.2.1 5 (by decide) (by decide), h.2.2.2⟩
theorem JC.s4 {μ : gs_M} {v : Int32} : JC μ (sI μ 3 4 v) := ⟨fun b b1 _ => sI_n _ _ _ b1, sI_o _ _ (by decide), rfl⟩
theorem IM.wide {a2 lo hi lo' hi' : Nat} {ν ν' : gs_M} (h : IM a2 lo hi ν ν') (h1 : lo' ≤ lo) (h2 : hi ≤ hi') : IM a2 lo' hi' ν ν' := ⟨h.1, h.2.1, fun j hj => h.2.2.1 j (by omega), h.2.2.2⟩
/-- what came out of the rows -/
def EN (k n a2 x0 R : Nat) (μ ν : gs_M) : Prop := (∃ q μ'', q ≤ 160 ∧ ν.1 78 11 = nI q ∧ D_X4_finish 3 μ = some (nI q, μ'') ∧ RC 3 μ μ'') ∨ (SX 3 n μ ν ∧ μ.1 3 4 = nI R ∧ ∀ r, r < R → RW k r a2 (x0 + 5 * r) μ ν)
theorem rows_loop {k n a2 x0 : Nat} (hk : k ≤ 2) (ha : 83 ≤ a2) (hx : x0 + 20 ≤ ln a2) (hl : ln a2 < 2 ^ 31) : ∀ (m r fu fu2 : Nat) (μ ν : gs_M), r + (m + 1) = 4 → m + 1 < fu → m + 1 < fu2 → TX 79 0 n μ ν → SX 3 n μ ν → μ.1 3 5 = nI k → μ.1 3 4 = nI r → (∀ i, i < r → RW k i a2 (x0 + 5 * i) μ ν) → ∃ (R : Nat) (μ' ν' : gs_M), 1 ≤ R ∧ R ≤ 4 ∧ L_X2_readAll_42 fu 4 1 μ = B_X2_readAll_98 μ' ∧ L_X12_readRows_6 fu2 (nI k) a2 (nI x0) (nI r) 1 ν = some (nI R, ν') ∧ JC μ μ' ∧ IM a2 x0 (x0 + 20) ν ν' ∧ EN k n a2 x0 R μ' ν' := by
  have ha2 : a2 ≠ 78 := by omega
  -- one row, in both
  have one : ∀ (r fu fu2 : Nat) (μ ν : gs_M), r < 4 → TX 79 0 n μ ν → SX 3 n μ ν → μ.1 3 5 = nI k → μ.1 3 4 = nI r → (∀ i, i < r → RW k i a2 (x0 + 5 * i) μ ν) → ∃ (μ1 ν1 : gs_M), (L_X2_readAll_42 (fu + 1) 4 1 μ = if (4 : Int32) ≤ nI (r + 1) then L_X2_readAll_42 fu 4 0 μ1 else (bd (D_X4_accept 3 (59 : Int32) μ1) (fun v9 u8 => if v9 = 0 then L_X2_readAll_42 fu 4 0 u8 else (L_X2_readAll_42 fu 4 1 u8)))) ∧ L_X12_readRows_6 (fu2 + 1) (nI k) a2 (nI x0) (nI r) 1 ν = (if ν1.1 78 11 = (-1 : Int32) then (bd (D_X12_look ν1) (fun v8 u7 => if v8 = (59 : Int32) then (B_X12_readRows_56 (L_X12_readRows_6 fu2) (nI k) a2 (nI x0) (nI (r + 1)) (1 : Int32) u7) else (B_X12_readRows_55 (L_X12_readRows_6 fu2) (nI k) a2 (nI x0) (nI (r + 1)) u7))) else (B_X12_readRows_55 (L_X12_readRows_6 fu2) (nI k) a2 (nI x0) (nI (r + 1)) ν1)) ∧ JC μ μ1 ∧ IM a2 x0 (x0 + 20) ν ν1 ∧ μ1.1 3 4 = nI (r + 1) ∧ (FX 3 n μ1 ν1 ∨ (SX 3 n μ1 ν1 ∧ ∀ i, i < r + 1 → RW k i a2 (x0 + 5 * i) μ1 ν1)) := by
    intro r fu fu2 μ ν hr hT hS h5 h4 hR
    obtain ⟨μ', ν1, t1, t2, t3, t4, t5⟩ := rr_e (row := r) (x3 := x0 + 5 * r) hk hr ha (by omega) hl hT hS h5
    have e4 : μ'.1 3 4 = nI r := (t3.2.1 4 (by decide) (by decide)).trans h4
    refine ⟨sI μ' 3 4 (nI (r + 1)), ν1, ?_, ?_, t3.jc.trans JC.s4, t4.wide (by omega) (by omega), sI_u _ _ _ _, ?_⟩
    · show Bo_X2_readAll_42 _ _ _ _ = _
      unfold Bo_X2_readAll_42 B_X2_readAll_93
      rw [if_neg (show ¬ (1 : Int32) = 0 by decide), gI_d, h4, if_neg (show ¬ (4 : Int32) ≤ nI r by rw [show (4 : Int32) = nI 4 from rfl]; exact nI_ge (by omega) (by omega)), t1, bd0_s, lt1, gI_d μ' 3 4, e4, nI_1, gI_d, sI_u]
    · show Bo_X12_readRows_6 _ _ _ _ _ _ _ = _
      unfold Bo_X12_readRows_6
      obtain ⟨p, -, -, h2⟩ := hS
      have e : nI x0 + 5 * nI r = nI (x0 + 5 * r) := by
        have := ixr_e (r := r) (j := 0) hr (by omega)
        rw [Int32.mul_comm, ← nI_add, ← show nI r * 5 + nI 0 = nI (5 * r) from this]
        congr 1
        exact (Int32.add_zero _).symm
      rw [if_neg (show ¬ (1 : Int32) = 0 by decide), gI_d, if_pos h2, e, t2, bd0_s, gI_d, nI_1]
    · rcases t5 with ⟨q, p', f1, f2, f3, f4, f5⟩ | ⟨⟨p, A, s1, s2⟩, w⟩
      · exact Or.inl ⟨q, p', f1, f2, (sI_o _ _ (by decide)).trans f3, f4, (sI_o _ _ (by decide)).trans f5⟩
      · refine Or.inr ⟨⟨p, ⟨A.1, (sI_o _ _ (by decide)).trans A.2.1, A.2.2⟩, (sI_o _ _ (by decide)).trans s1, s2⟩, fun i hi j hj => ?_⟩
        rw [sI_n _ _ _ (by decide)]
        by_cases q : i = r
        · subst q
          exact w j hj
        · have hN := NL5 k
          rw [t3.2.2.1 _ (by omega), t4.2.2.1 _ (by omega)]
          exact hR i (by omega) j hj
  -- the class has done its rows
  have dn : ∀ (fu : Nat) (μ : gs_M), 0 < fu → L_X2_readAll_42 fu 4 0 μ = B_X2_readAll_98 μ := by
    intro fu μ hf
    obtain ⟨fu, rfl⟩ : ∃ m, fu = m + 1 := ⟨fu - 1, by omega⟩
    show Bo_X2_readAll_42 _ _ _ _ = _
    unfold Bo_X2_readAll_42
    rw [if_pos rfl]
  have mdn : ∀ (fu : Nat) (r : Int32) (ν : gs_M), 0 < fu → B_X12_readRows_55 (L_X12_readRows_6 fu) (nI k) a2 (nI x0) r ν = some (r, ν) := by
    intro fu r ν hf
    obtain ⟨fu, rfl⟩ : ∃ m, fu = m + 1 := ⟨fu - 1, by omega⟩
    unfold B_X12_readRows_55 B_X12_readRows_56
    rw [if_pos rfl]
    unfold B_X12_readRows_74
    rw [if_pos rfl]
    show Bo_X12_readRows_6 _ _ _ _ _ _ _ = _
    unfold Bo_X12_readRows_6
    rw [if_pos rfl]
  -- a fault ends the rows
  have flt : ∀ (r fu fu2 : Nat) (μ1 ν1 : gs_M), r < 4 → 0 < fu → 0 < fu2 → TX 79 0 n μ1 ν1 → FX 3 n μ1 ν1 → (if (4 : Int32) ≤ nI (r + 1) then L_X2_readAll_42 fu 4 0 μ1 else (bd (D_X4_accept 3 (59 : Int32) μ1) (fun v9 u8 => if v9 = 0 then L_X2_readAll_42 fu 4 0 u8 else (L_X2_readAll_42 fu 4 1 u8)))) = B_X2_readAll_98 μ1 ∧ (if ν1.1 78 11 = (-1 : Int32) then (bd (D_X12_look ν1) (fun v8 u7 => if v8 = (59 : Int32) then (B_X12_readRows_56 (L_X12_readRows_6 fu2) (nI k) a2 (nI x0) (nI (r + 1)) (1 : Int32) u7) else (B_X12_readRows_55 (L_X12_readRows_6 fu2) (nI k) a2 (nI x0) (nI (r + 1)) u7))) else (B_X12_readRows_55 (L_X12_readRows_6 fu2) (nI k) a2 (nI x0) (nI (r + 1)) ν1)) = some (nI (r + 1), ν1) ∧ EN k n a2 x0 (r + 1) μ1 ν1 := by
    intro r fu fu2 μ1 ν1 hr hf hf2 hT hF
    have hF' := hF
    obtain ⟨q, p', f1, f2, f3, f4, f5⟩ := hF'
    have ea : D_X4_accept 3 59 μ1 = some (0, μ1) := by
      unfold D_X4_accept
      rw [gI_d, f3, if_neg (nI_nm1 (by omega))]
    refine ⟨?_, by rw [f4, if_neg (nI_nm1 (by omega)), mdn fu2 _ _ hf2], Or.inl ?_⟩
    · rw [ea, bd_s, if_pos rfl, dn fu _ hf]
      split <;> rfl
    · obtain ⟨q', μ'', g1, g2, g3, g4⟩ := fn_f (Or.inl rfl) hT hF
      exact ⟨q', μ'', g1, g2, g3, g4⟩
  have TXj : ∀ {μ ν μ' ν' : gs_M}, TX 79 0 n μ ν → JC μ μ' → IM a2 x0 (x0 + 20) ν ν' → TX 79 0 n μ' ν' := fun h hc hm =>
    h.go (hc.1 _ (by decide) (by decide)) (hc.1 _ (by decide) (by decide)) (hm.2.1 _ (by decide) (by decide)) (hm.2.1 _ (by decide) (by decide)) (hm.2.1 _ (by decide) (by decide)) (hm.1 _ (by decide) (by omega))
  intro m
  induction m with
  | zero =>
    intro r fu fu2 μ ν hr hf hf2 hT hS h5 h4 hR
    obtain ⟨fu, rfl⟩ : ∃ m, fu = m + 1 := ⟨fu - 1, by omega⟩
    obtain ⟨fu2, rfl⟩ : ∃ m, fu2 = m + 1 := ⟨fu2 - 1, by omega⟩
    obtain ⟨μ1, ν1, t1, t2, t3, t4, t5, t6⟩ := one r fu fu2 μ ν (by omega) hT hS h5 h4 hR
    have hr3 : r = 3 := by omega
    subst hr3
    have T1 := TXj hT t3 t4
    rw [t1, t2]
    rcases t6 with hF | ⟨hS1, hR1⟩
    · obtain ⟨g1, g2, g3⟩ := flt 3 fu fu2 μ1 ν1 (by omega) (by omega) (by omega) T1 hF
      exact ⟨4, μ1, ν1, by omega, by omega, g1, g2, t3, t4, g3⟩
    · have hS1' := hS1
      obtain ⟨p, A, s1, s2⟩ := hS1'
      rw [if_pos (show (4 : Int32) ≤ nI (3 + 1) by decide), dn fu _ (by omega), if_pos s2]
      obtain ⟨g, p', μ2, ν2, v0, v1, v2, v3, v4, v5, v6, v7, v8⟩ := nx_e (Or.inl rfl) T1 A
      rw [v2, bd_s]
      by_cases q : g = 59
      · subst q
        obtain ⟨F1, F2, F3⟩ := fx_e T1.1 v3 (v6.trans s1) (v7.trans s2)
        obtain ⟨fu2, rfl⟩ : ∃ m, fu2 = m + 1 := ⟨fu2 - 1, by omega⟩
        rw [if_pos rfl]
        refine ⟨4, μ1, sI ν2 78 11 (nI p'), by omega, by omega, rfl, ?_, t3, t4.trans ((v5.im ha2).trans ((RM.s (Or.inr rfl)).im ha2)), Or.inl ⟨p', sI μ2 3 2 (nI p'), by have := v3.1; have := T1.1; omega, sI_u _ _ _ _, ?_, v4.trans (RC.s (Or.inr rfl))⟩⟩
        · unfold B_X12_readRows_56
          rw [if_neg (show ¬ (1 : Int32) = 0 by decide), if_pos (show nI (3 + 1) = 4 from rfl), F2, bd_s]
          unfold B_X12_readRows_74
          have hpn : ¬ nI p' = -1 := nI_nm1 (by have := v3.1; have := T1.1; omega)
          rw [if_neg (show ¬ (1 : Int32) = 0 by decide), gI_d, sI_u, if_neg hpn]
          show Bo_X12_readRows_6 _ _ _ _ _ _ _ = _
          unfold Bo_X12_readRows_6
          rw [if_neg (show ¬ (1 : Int32) = 0 by decide), gI_d, sI_u, if_neg hpn]
        · unfold D_X4_finish
          rw [v1, bd_s, if_neg (show ¬ (59 : Int32) = -1 by decide), gI_d, v3.2.1, F1, bd0_s, gI_d, sI_u]
      · rw [if_neg q, mdn fu2 _ _ (by omega)]
        refine ⟨4, μ2, ν2, by omega, by omega, ?_, rfl, t3.trans (v4.ic (row := 0)).jc, t4.trans (v5.im ha2), Or.inr ⟨⟨p', v3, v6.trans s1, v7.trans s2⟩, (v4.2.1 4 (by decide) (by decide)).trans t5, fun i hi j hj => by rw [v4.1 4 (by decide), v5.1 a2 ha2]; exact hR1 i hi j hj⟩⟩
        unfold B_X2_readAll_98
        rw [fi_id (p := p) (Or.inl rfl) T1 v3 v4 v5 v1 v8]
  | succ m ih =>
    intro r fu fu2 μ ν hr hf hf2 hT hS h5 h4 hR
    obtain ⟨fu, rfl⟩ : ∃ m, fu = m + 1 := ⟨fu - 1, by omega⟩
    obtain ⟨fu2, rfl⟩ : ∃ m, fu2 = m + 1 := ⟨fu2 - 1, by omega⟩
    obtain ⟨μ1, ν1, t1, t2, t3, t4, t5, t6⟩ := one r fu fu2 μ ν (by omega) hT hS h5 h4 hR
    have T1 := TXj hT t3 t4
    rw [t1, t2]
    rcases t6 with hF | ⟨hS1, hR1⟩
    · obtain ⟨g1, g2, g3⟩ := flt r fu fu2 μ1 ν1 (by omega) (by omega) (by omega) T1 hF
      exact ⟨r + 1, μ1, ν1, by omega, by omega, g1, g2, t3, t4, g3⟩
    · have hS1' := hS1
      obtain ⟨p, A, s1, s2⟩ := hS1'
      rw [if_neg (show ¬ (4 : Int32) ≤ nI (r + 1) by rw [show (4 : Int32) = nI 4 from rfl]; exact nI_ge (by omega) (by omega)), if_pos s2]
      obtain ⟨g, p', μ2, ν2, v1, v2, v3, v4, v5, v6, v7⟩ := acc_e (x := 59) (Or.inl rfl) (by decide) T1 hS1
      have C2 : JC μ μ2 := t3.trans (v3.ic (row := 0)).jc
      have M2 := t4.trans (v4.im (lo := x0) (hi := x0 + 20) ha2)
      have R2 : ∀ i, i < r + 1 → RW k i a2 (x0 + 5 * i) μ2 ν2 := fun i hi j hj => by rw [v3.1 4 (by decide), v4.1 a2 ha2]; exact hR1 i hi j hj
      have e4 : μ2.1 3 4 = nI (r + 1) := (v3.2.1 4 (by decide) (by decide)).trans t5
      rw [v1, bd_s]
      rcases v7 with ⟨rfl, hp, ea⟩ | ⟨hg, ea⟩
      · rw [ea, bd_s, if_neg z10, if_pos rfl]
        unfold B_X12_readRows_56
        rw [if_neg z10, if_neg (show ¬ nI (r + 1) = 4 by rw [show (4 : Int32) = nI 4 from rfl, nI_eq (by omega) (by omega)]; omega)]
        unfold B_X12_readRows_74
        rw [if_neg z10, gI_d, if_pos v6, lt1, gI_d, v2.2.2, nI_1]
        have C3 : JC μ (sI μ2 3 1 (nI (p' + 1))) := C2.trans ((RC.s (Or.inl rfl)).ic (row := 0)).jc
        have M3 : IM a2 x0 (x0 + 20) ν (sI ν2 78 10 (nI (p' + 1))) := M2.trans ((RM.s (Or.inl rfl)).im ha2)
        obtain ⟨R, μ', ν', y0, y1, y2, y3, y4, y5, y6⟩ := ih (r + 1) fu fu2 (sI μ2 3 1 (nI (p' + 1))) (sI ν2 78 10 (nI (p' + 1))) (by omega) (by omega) (by omega) (TXj hT C3 M3) ⟨p' + 1, ⟨by omega, sI_u _ _ _ _, sI_u _ _ _ _⟩, (sI_o _ _ (by decide)).trans v5, (sI_o _ _ (by decide)).trans v6⟩ (C3.2.1.trans h5) ((sI_o _ _ (by decide)).trans e4) (fun i hi j hj => by rw [sI_n _ _ _ (by decide), sI_n _ _ _ ha2]; exact R2 i hi j hj)
        exact ⟨R, μ', ν', y0, y1, y2, y3, C3.trans y4, M3.trans y5, y6⟩
      · rw [ea, bd_s, if_pos rfl, if_neg hg, mdn fu2 _ _ (by omega), dn fu _ (by omega)]
        exact ⟨r + 1, μ2, ν2, by omega, by omega, rfl, rfl, C2, M2, Or.inr ⟨⟨p', v2, v5, v6⟩, e4, R2⟩⟩
