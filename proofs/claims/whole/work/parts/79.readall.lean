/-! a whole text of items -/
def WD (k : Nat) : Nat := if k = 0 then 5 else 20
def KM (k x : Nat) (ν ν' : gs_M) : Prop := (∀ b, b ≠ 78 → b ≠ 83 + k → (k ≠ 0 → b ≠ 85 + k) → ν'.1 b = ν.1 b) ∧ (∀ j, j ≠ 5 → j ≠ 8 → j ≠ 9 → j ≠ 10 → j ≠ 11 → ν'.1 78 j = ν.1 78 j) ∧ (∀ j, j < WD k * x ∨ WD k * x + WD k ≤ j → ν'.1 (83 + k) j = ν.1 (83 + k) j) ∧ (k ≠ 0 → ∀ j, j ≠ x → ν'.1 (85 + k) j = ν.1 (85 + k) j) ∧ ν'.2 = ν.2
/-- what a sound text left -/
def GOT (k x R : Nat) (μ ν : gs_M) : Prop := 1 ≤ R ∧ R ≤ 4 ∧ (k = 0 → R = 1) ∧ μ.1 3 4 = nI R ∧ (k ≠ 0 → ν.1 (85 + k) x = nI R) ∧ ∀ r, r < R → RW k r (83 + k) (WD k * x + 5 * r) μ ν
theorem op_t {n : Nat} {μ ν : gs_M} (n160 : n ≤ 160) (h1 : μ.1 1 1 = nI n) (h6 : ν.1 78 6 = nI n) (hs : ∀ j, j < n → ∃ s, 1 ≤ s ∧ s ≤ 255 ∧ μ.1 2 j = nI s ∧ ν.1 79 j = by8 s) : ∃ ν1, D_X12_opens 79 0 (gI ν 78 6) ν = some ν1 ∧ TX 79 0 n μ ν1 ∧ ν1.1 78 10 = nI 0 ∧ ν1.1 78 11 = -1 ∧ (∀ b, b ≠ 78 → ν1.1 b = ν.1 b) ∧ (∀ j, j ≠ 5 → j ≠ 8 → j ≠ 9 → j ≠ 10 → j ≠ 11 → ν1.1 78 j = ν.1 78 j) ∧ ν1.2 = ν.2 := by
  obtain ⟨ν1, hν1⟩ : ∃ ν1, ν1 = sI (sI (sI (sI (sI ν 78 5 (nI 79)) 78 8 0) 78 9 (nI n)) 78 10 0) 78 11 (-1) := ⟨_, rfl⟩
  have hn : ∀ b, b ≠ 78 → ν1.1 b = ν.1 b := fun b hb => by rw [hν1, sI_n _ _ _ hb, sI_n _ _ _ hb, sI_n _ _ _ hb, sI_n _ _ _ hb, sI_n _ _ _ hb]
  refine ⟨ν1, ?_, ⟨n160, h1, ?_, ?_, ?_, Or.inl ⟨rfl, rfl⟩, ?_⟩, ?_, ?_, hn, ?_, ?_⟩
  · unfold D_X12_opens
    rw [gI_d, h6, lt1, lt1, lt1, lt1, lt1, ← hν1]
  · rw [hν1, sI_o _ _ (by decide), sI_o _ _ (by decide), sI_o _ _ (by decide), sI_o _ _ (by decide), sI_u]
  · rw [hν1, sI_o _ _ (by decide), sI_o _ _ (by decide), sI_o _ _ (by decide), sI_u]
    rfl
  · rw [hν1, sI_o _ _ (by decide), sI_o _ _ (by decide), sI_u]
  · intro j hj
    rw [hn 79 (by decide), Nat.zero_add]
    exact hs j hj
  · rw [hν1, sI_o _ _ (by decide), sI_u]
    rfl
  · rw [hν1, sI_u]
  · intro j j1 j2 j3 j4 j5
    rw [hν1, sI_o _ _ j5, sI_o _ _ j4, sI_o _ _ j3, sI_o _ _ j2, sI_o _ _ j1]
  · rw [hν1]; rfl
theorem bg_e (a0 : Nat) (μ : gs_M) : D_X4_begin a0 μ = some (sI (sI μ a0 1 0) a0 2 (-1)) := by
  unfold D_X4_begin
  rw [lt1, lt1]
theorem ra_e {k x : Nat} {μ ν : gs_M} (hk : k ≤ 2) (hx : x ≤ if k = 1 then 3 else 6) (hc : cT μ ν) : ∃ (f : Int32) (R : Nat) (μ' ν' : gs_M), D_X2_readAll (nI k) μ = some (f, μ') ∧ D_X12_read (nI k) (nI x) ν = some ν' ∧ ν'.1 78 11 = f ∧ (∀ b, b ≠ 3 → b ≠ 4 → μ'.1 b = μ.1 b) ∧ μ'.2 = μ.2 ∧ KM k x ν ν' ∧ (f = -1 → GOT k x R μ' ν') := by
  obtain ⟨n, n160, h1, h6, hs⟩ := hc
  obtain ⟨ν1, o1, o2, o3, o4, o5, o6, o7⟩ := op_t n160 h1 h6 hs
  obtain ⟨μ1, hμ1⟩ : ∃ μ1, μ1 = sI (sI (sI (sI μ 3 1 0) 3 2 (-1)) 3 5 (nI k)) 3 4 0 := ⟨_, rfl⟩
  have cn : ∀ b, b ≠ 3 → μ1.1 b = μ.1 b := fun b hb => by rw [hμ1, sI_n _ _ _ hb, sI_n _ _ _ hb, sI_n _ _ _ hb, sI_n _ _ _ hb]
  have c1 : μ1.1 3 1 = nI 0 := by rw [hμ1, sI_o _ _ (by decide), sI_o _ _ (by decide), sI_o _ _ (by decide), sI_u]; rfl
  have c2 : μ1.1 3 2 = -1 := by rw [hμ1, sI_o _ _ (by decide), sI_o _ _ (by decide), sI_u]
  have c5 : μ1.1 3 5 = nI k := by rw [hμ1, sI_o _ _ (by decide), sI_u]
  have c4 : μ1.1 3 4 = nI 0 := by rw [hμ1, sI_u]; rfl
  have cL : μ1.2 = μ.2 := by rw [hμ1]; rfl
  have T1 : TX 79 0 n μ1 ν1 := o2.go (cn 1 (by decide)) (cn 2 (by decide)) rfl rfl rfl rfl
  have S1 : SX 3 n μ1 ν1 := ⟨0, ⟨by omega, c1, o3⟩, c2, o4⟩
  have rd : D_X2_readAll (nI k) μ = L_X2_readAll_42 4096 (if nI k = 0 then 1 else 4) 1 μ1 := by
    unfold D_X2_readAll
    have e : inN (nI k) 0 2 = 1 := inN_y (by rw [nI_toInt (by omega)]; exact Int.natCast_nonneg k) (by rw [nI_toInt (by omega), show (2 : Int32).toInt = 2 by decide]; omega)
    rw [bg_e, bd0_s, wi_e, bd_s, e, if_neg z10]
    unfold B_X2_readAll_19 B_X2_readAll_39
    rw [lt1, lt1, ← hμ1, gI_d, c5]
    split <;> rfl
  rw [rd]
  by_cases k0 : k = 0
  · subst k0
    have x6 : x ≤ 6 := hx
    obtain ⟨μ2, ν2, t1, t2, t3, t4, t5⟩ := rr_e (k := 0) (row := 0) (a2 := 83) (x3 := 5 * x) (by omega) (by omega) (by omega) (by rw [show ln 83 = 35 by decide +kernel]; omega) (by rw [show ln 83 = 35 by decide +kernel]; decide) T1 S1 c5
    have e4 : μ2.1 3 4 = nI 0 := (t3.2.1 4 (by decide) (by decide)).trans c4
    have T2 : TX 79 0 n μ2 ν2 := T1.i (by omega) t3 t4
    have e5x : (5 : Int32) * nI x = nI (5 * x) := by
      have : x = 0 ∨ x = 1 ∨ x = 2 ∨ x = 3 ∨ x = 4 ∨ x = 5 ∨ x = 6 := by omega
      rcases this with rfl | rfl | rfl | rfl | rfl | rfl | rfl <;> rfl
    have cl : L_X2_readAll_42 4096 (if nI 0 = 0 then 1 else 4) 1 μ1 = B_X2_readAll_98 (sI μ2 3 4 (nI 1)) := by
      rw [if_pos nI_0]
      show Bo_X2_readAll_42 _ _ _ _ = _
      unfold Bo_X2_readAll_42 B_X2_readAll_93
      rw [if_neg z10, gI_d, c4, if_neg (show ¬ (1 : Int32) ≤ nI 0 by decide), t1, bd0_s, lt1, gI_d μ2 3 4, e4, nI_1, gI_d, sI_u, if_pos (show (1 : Int32) ≤ nI (0 + 1) by decide)]
      show Bo_X2_readAll_42 _ _ _ _ = _
      unfold Bo_X2_readAll_42
      rw [if_pos rfl]
    have ml : D_X12_read (nI 0) (nI x) ν = B_X12_read_78 ν2 := by
      unfold D_X12_read
      rw [o1, bd0_s, if_pos nI_0, e5x]
      rw [show (0 : Int32) = nI 0 from rfl, t2, bd0_s]
    rw [cl, ml]
    unfold B_X2_readAll_98
    have km : ∀ ν', RM ν2 ν' → KM 0 x ν ν' := by
      intro ν' h
      refine ⟨fun b b1 b2 _ => by rw [h.1 b b1, t4.1 b b1 (by omega), o5 b b1], fun j j1 j2 j3 j4 j5 => by rw [h.2.1 j j4 j5, t4.2.1 j j4 j5, o6 j j1 j2 j3 j4 j5], fun j hj => ?_, fun h => absurd rfl h, by rw [h.2.2, t4.2.2.2, o7]⟩
      have : WD 0 = 5 := rfl
      rw [this] at hj
      rw [show 83 + 0 = 83 from rfl, h.1 83 (by decide), t4.2.2.1 j (by omega), o5 83 (by decide)]
    have cs : ∀ μ', RC 3 (sI μ2 3 4 (nI 1)) μ' → (∀ b, b ≠ 3 → b ≠ 4 → μ'.1 b = μ.1 b) ∧ μ'.2 = μ.2 := by
      intro μ' h
      exact ⟨fun b b1 b2 => by rw [h.1 b b1, sI_n _ _ _ b1, t3.1 b b1 b2, cn b b1], by rw [h.2.2]; exact t3.2.2.2.trans cL⟩
    rcases t5 with ⟨q, p', f1, f2, f3, f4, f5⟩ | ⟨⟨p, A, s1, s2⟩, w⟩
    · obtain ⟨q', μ3, g1, g2, g3, g4⟩ := fn_f (μ := sI μ2 3 4 (nI 1)) (ν := ν2) (Or.inl rfl) (T2.go (sI_n _ _ _ (by decide)) (sI_n _ _ _ (by decide)) rfl rfl rfl rfl) ⟨q, p', f1, f2, (sI_o _ _ (by decide)).trans f3, f4, (sI_o _ _ (by decide)).trans f5⟩
      refine ⟨nI q', 1, μ3, ν2, by rw [g3, bd_s], (fn_m g1 g2).1, g2, (cs μ3 g4).1, (cs μ3 g4).2, km ν2 RM.refl, fun e => absurd e (nI_nm1 (by omega))⟩
    · obtain ⟨f, μ3, ν3, g1, g2, -, g3, g4, g5, g6⟩ := fn_s (μ := sI μ2 3 4 (nI 1)) (ν := ν2) (Or.inl rfl) (T2.go (sI_n _ _ _ (by decide)) (sI_n _ _ _ (by decide)) rfl rfl rfl rfl) ⟨p, ⟨A.1, (sI_o _ _ (by decide)).trans A.2.1, A.2.2⟩, (sI_o _ _ (by decide)).trans s1, s2⟩
      refine ⟨f, 1, μ3, ν3, by rw [g1, bd_s], g2, g3, (cs μ3 g5).1, (cs μ3 g5).2, km ν3 g6, fun _ => ⟨by omega, by omega, fun _ => rfl, by rw [g5.2.1 4 (by decide) (by decide), sI_u], fun h => absurd rfl h, fun r hr j hj => ?_⟩⟩
      have hr0 : r = 0 := by omega
      subst hr0
      rw [g5.1 4 (by decide), sI_n _ _ _ (by decide), show 83 + 0 = 83 from rfl, g6.1 83 (by decide), show WD 0 * x + 5 * 0 = 5 * x by unfold WD; rw [if_pos rfl]; omega]
      exact w j hj
  · have hw : WD k = 20 := if_neg k0
    have hxx : x ≤ 6 := by split at hx <;> omega
    have hln : 20 * x + 20 ≤ ln (83 + k) ∧ ln (83 + k) < 2 ^ 31 := by
      have : k = 1 ∨ k = 2 := by omega
      rcases this with rfl | rfl
      · have : x ≤ 3 := hx
        rw [show ln (83 + 1) = 80 by decide +kernel]
        omega
      · rw [show ln (83 + 2) = 140 by decide +kernel]
        omega
    obtain ⟨R, μ2, ν2, r1, r2, t1, t2, t3, t4, t5⟩ := rows_loop (k := k) (a2 := 83 + k) (x0 := 20 * x) hk (by omega) hln.1 hln.2 3 0 4096 4096 μ1 ν1 (by omega) (by omega) (by omega) T1 S1 c5 c4 (fun i hi => by omega)
    have e20 : (20 : Int32) * nI x = nI (20 * x) := by
      have : x = 0 ∨ x = 1 ∨ x = 2 ∨ x = 3 ∨ x = 4 ∨ x = 5 ∨ x = 6 := by omega
      rcases this with rfl | rfl | rfl | rfl | rfl | rfl | rfl <;> rfl
    have T2 : TX 79 0 n μ2 ν2 := T1.go (t3.1 _ (by decide) (by decide)) (t3.1 _ (by decide) (by decide)) (t4.2.1 _ (by decide) (by decide)) (t4.2.1 _ (by decide) (by decide)) (t4.2.1 _ (by decide) (by decide)) (t4.1 _ (by decide) (by omega))
    obtain ⟨ν3, hν3⟩ : ∃ ν3, ν3 = sI ν2 (85 + k) x (nI R) := ⟨_, rfl⟩
    have n3 : ∀ b, b ≠ 85 + k → ν3.1 b = ν2.1 b := fun b hb => by rw [hν3]; exact sI_n _ _ _ hb
    have ml : D_X12_read (nI k) (nI x) ν = B_X12_read_78 ν3 := by
      unfold D_X12_read
      rw [o1, bd0_s, if_neg (nI_ne0 (by omega) (by omega)), e20]
      have : k = 1 ∨ k = 2 := by omega
      rcases this with rfl | rfl
      · have hx3 : x ≤ 3 := hx
        rw [if_pos (show nI 1 = 1 from rfl), show (1 : Int32) = nI 1 from rfl, show 84 = 83 + 1 from rfl]
        rw [show D_X12_readRows (nI 1) (83 + 1) (nI (20 * x)) ν1 = some (nI R, ν2) from t2, bd_s, inb_n (by omega) (by decide), ck_t, nI_clamp (by omega), lt1, hν3]
      · rw [if_neg (show ¬ nI 2 = 1 by decide), show (2 : Int32) = nI 2 from rfl, show 85 = 83 + 2 from rfl]
        rw [show D_X12_readRows (nI 2) (83 + 2) (nI (20 * x)) ν1 = some (nI R, ν2) from t2, bd_s, inb_n (by omega) (by decide), ck_t, nI_clamp (by omega), lt1, hν3]
    have cl : L_X2_readAll_42 4096 (if nI k = 0 then 1 else 4) 1 μ1 = B_X2_readAll_98 μ2 := by
      rw [if_neg (nI_ne0 (by omega) (by omega))]
      exact t1
    rw [cl, ml]
    unfold B_X2_readAll_98
    have km : ∀ ν', RM ν3 ν' → KM k x ν ν' := by
      intro ν' h
      refine ⟨fun b b1 b2 b3 => by rw [h.1 b b1, n3 b (b3 k0), t4.1 b b1 b2, o5 b b1], fun j j1 j2 j3 j4 j5 => by rw [h.2.1 j j4 j5, n3 78 (by omega), t4.2.1 j j4 j5, o6 j j1 j2 j3 j4 j5], fun j hj => ?_, fun _ j hj => ?_, ?_⟩
      · rw [hw] at hj
        rw [h.1 _ (by omega), n3 _ (by omega), t4.2.2.1 j (by omega), o5 _ (by omega)]
      · rw [h.1 _ (by omega), hν3, sI_o _ _ hj, t4.1 _ (by omega) (by omega), o5 _ (by omega)]
      · rw [h.2.2, hν3]
        exact t4.2.2.2.trans o7
    have cs : ∀ μ', RC 3 μ2 μ' → (∀ b, b ≠ 3 → b ≠ 4 → μ'.1 b = μ.1 b) ∧ μ'.2 = μ.2 := by
      intro μ' h
      exact ⟨fun b b1 b2 => by rw [h.1 b b1, t3.1 b b1 b2, cn b b1], by rw [h.2.2]; exact t3.2.2.trans cL⟩
    rcases t5 with ⟨q', μ3, g1, g2, g3, g4⟩ | ⟨⟨p, A, s1, s2⟩, w4, w⟩
    · have g2' : ν3.1 78 11 = nI q' := by rw [n3 78 (by omega)]; exact g2
      refine ⟨nI q', R, μ3, ν3, by rw [g3, bd_s], (fn_m g1 g2').1, g2', (cs μ3 g4).1, (cs μ3 g4).2, km ν3 RM.refl, fun e => absurd e (nI_nm1 (by omega))⟩
    · have T3 : TX 79 0 n μ2 ν3 := T2.go rfl rfl (by rw [n3 78 (by omega)]) (by rw [n3 78 (by omega)]) (by rw [n3 78 (by omega)]) (n3 79 (by omega))
      obtain ⟨f, μ3, ν4, g1, g2, -, g3, g4, g5, g6⟩ := fn_s (Or.inl rfl) T3 ⟨p, ⟨A.1, A.2.1, by rw [n3 78 (by omega)]; exact A.2.2⟩, s1, by rw [n3 78 (by omega)]; exact s2⟩
      refine ⟨f, R, μ3, ν4, by rw [g1, bd_s], g2, g3, (cs μ3 g5).1, (cs μ3 g5).2, km ν4 g6, fun _ => ⟨r1, r2, fun h => absurd h k0, by rw [g5.2.1 4 (by decide) (by decide)]; exact w4, fun _ => by rw [g6.1 _ (by omega), hν3, sI_u], fun r hr j hj => ?_⟩⟩
      rw [g5.1 4 (by decide), g6.1 _ (by omega), n3 _ (by omega), hw]
      exact w r hr j hj
