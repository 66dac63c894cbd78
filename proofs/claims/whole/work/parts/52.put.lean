/-! calls that read, and calls that put one thing -/
def inN (x lo hi : Int32) : Int32 := if x < lo then 0 else if hi < x then 0 else 1
theorem wi_e (x lo hi : Int32) (μ : gs_M) : D_X11_within x lo hi μ = some (inN x lo hi, μ) := by
  unfold D_X11_within inN B_X11_within_14
  by_cases h1 : x < lo
  · rw [if_pos h1, if_pos h1]
  · rw [if_neg h1, if_neg h1]
    by_cases h2 : hi < x
    · rw [if_pos h2, if_pos h2]
    · rw [if_neg h2, if_neg h2]
theorem ii_e (x lo hi : Int32) (μ : gs_M) : D_X12_isIn x lo hi μ = some (inN x lo hi, μ) := by
  unfold D_X12_isIn inN B_X12_isIn_14
  by_cases h1 : x < lo
  · rw [if_pos h1, if_pos h1]
  · rw [if_neg h1, if_neg h1]
    by_cases h2 : hi < x
    · rw [if_pos h2, if_pos h2]
    · rw [if_neg h2, if_neg h2]
theorem inN_k (x : Int32) {lo hi : Int32} {L H : Int} (hl : lo.toInt = L) (hh : hi.toInt = H) : inN x lo hi = 0 ∨ (inN x lo hi = 1 ∧ L ≤ x.toInt ∧ x.toInt ≤ H) := by
  unfold inN
  by_cases h1 : x < lo
  · rw [if_pos h1]; exact Or.inl rfl
  · rw [if_neg h1]
    by_cases h2 : hi < x
    · rw [if_pos h2]; exact Or.inl rfl
    · rw [if_neg h2]
      rw [ti_lt] at h1 h2
      exact Or.inr ⟨rfl, by omega, by omega⟩
theorem inN_y {x lo hi : Int32} (h1 : lo.toInt ≤ x.toInt) (h2 : x.toInt ≤ hi.toInt) : inN x lo hi = 1 := by
  unfold inN
  rw [if_neg (by rw [ti_lt]; omega), if_neg (by rw [ti_lt]; omega)]
theorem inN_z {x lo hi : Int32} (h : x.toInt < lo.toInt ∨ hi.toInt < x.toInt) : inN x lo hi = 0 := by
  unfold inN
  by_cases h1 : x < lo
  · rw [if_pos h1]
  · rw [if_neg h1]
    rw [ti_lt] at h1
    rw [if_pos (by rw [ti_lt]; omega)]
theorem z10 : ¬ (1 : Int32) = 0 := by decide
theorem th_e {i : Nat} {μ ν0 : gs_M} (h : RT i μ ν0) : ∃ ν, ν = sI ν0 78 0 0 ∧ RT i μ ν ∧ eM ν0 ν := by
  refine ⟨_, rfl, h.go (Nat.le_refl _) kC.refl ⟨fun b hb => sI_n _ _ _ (by omega), fun j _ => by rw [sI_n _ _ _ (by decide)], fun j hj => by rw [sI_s, pk_un (by omega)], rfl, rfl⟩, fun b hb => ⟨sI_n _ _ _ (by omega), rfl⟩⟩
theorem fin_e {i : Nat} {μ ν0 ν : gs_M} {r : Int32} {x y : Option (Int32 × gs_M)} (h : RT i μ ν) (he : eM ν0 ν) (hx : x = some (r, μ)) (hy : y = some (r, ν)) : ∃ (r : Int32) (μ' ν' : gs_M), x = some (r, μ') ∧ y = some (r, ν') ∧ RT (i + 8) μ' ν' ∧ eC μ μ' ∧ eM ν0 ν' :=
  ⟨r, μ, ν, hx, hy, h.go (by omega) kC.refl kM.refl, eC.refl, he⟩
/-- an index that is there -/
theorem ix_e {x : Int32} {n : Nat} (hn : n < 2 ^ 31) : (x < 0 ∨ nI n ≤ x) ∨ ∃ e, e < n ∧ x = nI e := by
  rcases pk_ix x hn with h | h | h
  · exact Or.inl (Or.inl h)
  · exact Or.inl (Or.inr h)
  · exact Or.inr h
theorem k_rules {i : Nat} : CALLS i D_X11_rules D_X12_rules := by
  intro μ ν0 h0
  obtain ⟨ν, hν, h, he⟩ := th_e h0
  have h' := h
  obtain ⟨h1, ⟨st, h2, h3, h4⟩, ⟨sh, h5⟩, ⟨pl, h6⟩, h7, h8, h9, h10, h11, h12⟩ := h'
  obtain ⟨n, n4, e1, e2, -⟩ := h12
  refine fin_e (r := nI n) h he ?_ ?_
  · unfold D_X11_rules; rw [gI_d, e1]
  · unfold D_X12_rules; simp only [lt1, ← hν, gI_d, e2]

theorem k_count {i : Nat} (y : Int32) : CALLS i (D_X11_count y) (D_X12_count y) := by
  intro μ ν0 h0
  obtain ⟨ν, hν, h, he⟩ := th_e h0
  have h' := h
  obtain ⟨⟨nt, _, t1, t2, _⟩, ⟨st, h2, h3, h4⟩, ⟨sh, h5⟩, ⟨pl, h6⟩, h7, ⟨nc, _, c1, c2, _⟩, h9, ⟨ng, _, g1, g2, _⟩, ⟨ne, _, e1, e2, _⟩, h12⟩ := h'
  have q0 : μ.1 7 3 = ν.1 78 24 := h2.2.1.trans h2.2.2.2.1.symm
  have q1 : μ.1 10 3 = ν.1 78 25 := h5.2.1.trans h5.2.2.2.1.symm
  have q2 : μ.1 13 3 = ν.1 78 26 := h6.2.1.trans h6.2.2.2.1.symm
  have q3 : μ.1 1 1 = ν.1 78 6 := t1.trans t2.symm
  have q4 : μ.1 25 0 = ν.1 78 27 := h7.1.1
  have q5 : μ.1 25 1 = ν.1 78 28 := h7.1.2.1
  have q6 : μ.1 25 2 = ν.1 78 29 := h7.1.2.2.1
  have q7 : μ.1 66 2 = ν.1 78 41 := c1.trans c2.symm
  have q8 : μ.1 0 15 = ν.1 78 43 := g1.trans g2.symm
  have q9 : μ.1 73 1 = ν.1 78 45 := e1.trans e2.symm
  unfold D_X11_count D_X12_count
  simp only [lt1, ← hν, gI_d, q0, q1, q2, q3, q4, q5, q6, q7, q8, q9]
  by_cases k0 : y = 0
  · exact fin_e (r := ν.1 78 24) h he (by simp only [if_pos k0]) (by simp only [if_pos k0])
  by_cases k1 : y = 1
  · exact fin_e (r := ν.1 78 25) h he (by simp only [if_neg k0, if_pos k1]) (by simp only [if_neg k0, if_pos k1])
  by_cases k2 : y = 2
  · exact fin_e (r := ν.1 78 26) h he (by simp only [if_neg k0, if_neg k1, if_pos k2]) (by simp only [if_neg k0, if_neg k1, if_pos k2])
  by_cases k3 : y = 3
  · exact fin_e (r := ν.1 78 6) h he (by simp only [if_neg k0, if_neg k1, if_neg k2, if_pos k3]) (by simp only [if_neg k0, if_neg k1, if_neg k2, if_pos k3])
  by_cases k4 : y = 4
  · exact fin_e (r := ν.1 78 27) h he (by simp only [if_neg k0, if_neg k1, if_neg k2, if_neg k3, if_pos k4]) (by simp only [if_neg k0, if_neg k1, if_neg k2, if_neg k3, if_pos k4])
  by_cases k5 : y = 5
  · exact fin_e (r := ν.1 78 28) h he (by simp only [if_neg k0, if_neg k1, if_neg k2, if_neg k3, if_neg k4, if_pos k5]) (by simp only [if_neg k0, if_neg k1, if_neg k2, if_neg k3, if_neg k4, if_pos k5])
  by_cases k6 : y = 6
  · exact fin_e (r := ν.1 78 29) h he (by simp only [if_neg k0, if_neg k1, if_neg k2, if_neg k3, if_neg k4, if_neg k5, if_pos k6]) (by simp only [if_neg k0, if_neg k1, if_neg k2, if_neg k3, if_neg k4, if_neg k5, if_pos k6])
  by_cases k7 : y = 7
  · exact fin_e (r := ν.1 78 41) h he (by simp only [if_neg k0, if_neg k1, if_neg k2, if_neg k3, if_neg k4, if_neg k5, if_neg k6, if_pos k7]) (by simp only [if_neg k0, if_neg k1, if_neg k2, if_neg k3, if_neg k4, if_neg k5, if_neg k6, if_pos k7])
  by_cases k8 : y = 8
  · exact fin_e (r := ν.1 78 43) h he (by simp only [if_neg k0, if_neg k1, if_neg k2, if_neg k3, if_neg k4, if_neg k5, if_neg k6, if_neg k7, if_pos k8]) (by simp only [if_neg k0, if_neg k1, if_neg k2, if_neg k3, if_neg k4, if_neg k5, if_neg k6, if_neg k7, if_pos k8])
  by_cases k9 : y = 9
  · exact fin_e (r := ν.1 78 45) h he (by simp only [if_neg k0, if_neg k1, if_neg k2, if_neg k3, if_neg k4, if_neg k5, if_neg k6, if_neg k7, if_neg k8, if_pos k9]) (by simp only [if_neg k0, if_neg k1, if_neg k2, if_neg k3, if_neg k4, if_neg k5, if_neg k6, if_neg k7, if_neg k8, if_pos k9])
  exact fin_e (r := -1000000) h he (by simp only [if_neg k0, if_neg k1, if_neg k2, if_neg k3, if_neg k4, if_neg k5, if_neg k6, if_neg k7, if_neg k8, if_neg k9]) (by simp only [if_neg k0, if_neg k1, if_neg k2, if_neg k3, if_neg k4, if_neg k5, if_neg k6, if_neg k7, if_neg k8, if_neg k9])
theorem k_course {i : Nat} (y0 y1 : Int32) : CALLS i (D_X11_course y0 y1) (D_X12_course y0 y1) := by
  intro μ ν0 h0
  obtain ⟨ν, hν, h, he⟩ := th_e h0
  have h' := h
  obtain ⟨h1, ⟨st, h2, h3, h4⟩, ⟨sh, h5⟩, ⟨pl, h6⟩, h7, h8, h9, h10, h11, h12⟩ := h'
  obtain ⟨n, n6, e1, e2, e3⟩ := h8
  have r1 := inN_k y0 (lo := 0) (hi := 30) (L := 0) (H := 30) (by decide) (by decide)
  have r2 := inN_k y1 (lo := 1) (hi := 9) (L := 1) (H := 9) (by decide) (by decide)
  unfold D_X11_course D_X12_course D_X3_keep B_X11_course_32
  simp only [lt1, ← hν, wi_e, ii_e, bd_s]
  by_cases hn : n = 6
  · have q1 : ν.1 78 41 = 6 := by rw [e2, hn]; rfl
    have q2 : ¬ μ.1 66 2 < 6 := by rw [e1, hn]; decide
    refine fin_e (r := -1) h he ?_ ?_
    · rcases r1 with z1 | ⟨z1, -⟩
      · simp only [z1, if_true]
      · rcases r2 with z2 | ⟨z2, -⟩
        · simp only [z1, z2, if_true, if_neg z10]
        · simp only [z1, z2, if_neg z10, gI_d, if_neg q2, bd_s]
    · simp only [gI_d, q1, if_true]
  · have q1 : ¬ nI n = 6 := by exact fun q => hn ((nI_eq (by omega) (by decide)).mp q)
    have q2 : nI n < 6 := by exact nI_lt (a := n) (b := 6) (by omega) (by omega)
    rcases r1 with z1 | ⟨z1, a1, a2⟩
    · exact fin_e (r := -1) h he (by simp only [z1, if_true]) (by simp only [gI_d, e2, if_neg q1, z1, if_true])
    · rcases r2 with z2 | ⟨z2, b1, b2⟩
      · exact fin_e (r := -1) h he (by simp only [z1, z2, if_true, if_neg z10]) (by simp only [gI_d, e2, if_neg q1, z1, z2, if_true, if_neg z10])
      · obtain ⟨μ', hμ'⟩ : ∃ μ', μ' = sI (sI (sI μ 67 n y0) 68 n y1) 66 2 (nI (n + 1)) := ⟨_, rfl⟩
        obtain ⟨ν', hν'⟩ : ∃ ν', ν' = sI (sI (sI ν 92 n y0) 93 n y1) 78 41 (nI (n + 1)) := ⟨_, rfl⟩
        have fc : ∀ b, ¬ (b = 66 ∨ b = 67 ∨ b = 68) → μ'.1 b = μ.1 b := fun b hb => by rw [hμ', sI_n _ _ _ (by omega), sI_n _ _ _ (by omega), sI_n _ _ _ (by omega)]
        have fm : ∀ b, ¬ (b = 78 ∨ b = 92 ∨ b = 93) → ν'.1 b = ν.1 b := fun b hb => by rw [hν', sI_n _ _ _ (by omega), sI_n _ _ _ (by omega), sI_n _ _ _ (by omega)]
        have f78 : ∀ j, j ≠ 41 → ν'.1 78 j = ν.1 78 j := fun j hj => by rw [hν', sI_s, pk_un hj, sI_n _ _ _ (by decide), sI_n _ _ _ (by decide)]
        have fl : μ'.2 = μ.2 := by rw [hμ']; rfl
        have f2 : ν'.2 = ν.2 := by rw [hν']; rfl
        have g1 : μ'.1 66 2 = nI (n + 1) := by rw [hμ', sI_s, pk_us]
        have g2 : ν'.1 78 41 = nI (n + 1) := by rw [hν', sI_s, pk_us]
        have g3 : μ'.1 67 = upd (μ.1 67) n y0 := by rw [hμ', sI_n _ _ _ (by decide), sI_n _ _ _ (by decide), sI_s]
        have g4 : μ'.1 68 = upd (μ.1 68) n y1 := by rw [hμ', sI_n _ _ _ (by decide), sI_s, sI_n _ _ _ (by decide)]
        have g5 : ν'.1 92 = upd (ν.1 92) n y0 := by rw [hν', sI_n _ _ _ (by decide), sI_n _ _ _ (by decide), sI_s]
        have g6 : ν'.1 93 = upd (ν.1 93) n y1 := by rw [hν', sI_n _ _ _ (by decide), sI_s, sI_n _ _ _ (by decide)]
        have nw : cC μ' ν' := by
          refine ⟨n + 1, by omega, g1, g2, fun k hk => ?_⟩
          rw [g3, g4, g5, g6]
          by_cases q : k = n
          · subst q
            rw [pk_us, pk_us, pk_us, pk_us]
            obtain ⟨d, d9, rfl⟩ := ti_nat (x := y1) (m := 9) (by omega) (by omega)
            rw [nI_toInt (by omega)] at b1
            exact ⟨⟨rfl, by omega, by omega⟩, d, by omega, d9, rfl, rfl⟩
          · rw [pk_un q, pk_un q, pk_un q, pk_un q]
            exact e3 k (by omega)
        refine ⟨nI n, μ', ν', ?_, ?_, ⟨h1.go (fc 1 (by decide)) (fc 2 (by decide)) (f78 6 (by decide)) (fm 79 (by decide)), ⟨st, h2.go (fc 7 (by decide)) (fc 8 (by decide)) (fc 9 (by decide)) (f78 24 (by decide)) (fm 83 (by decide)), h3.go (by omega) (fun b _ _ => fc b (by omega)) (by rw [fl]) (fun j _ => by rw [fm 89 (by decide)]) (fm 83 (by decide)) (by rw [f2]), h4.go (by omega) (fun b _ _ => fc b (by omega)) (by rw [fl]) (fm 91 (by decide)) (f78 36 (by decide)) (fm 83 (by decide)) (by rw [f2])⟩, ⟨sh, h5.go (fc 10 (by decide)) (fc 11 (by decide)) (fc 12 (by decide)) (f78 25 (by decide)) (fm 84 (by decide)) (fm 86 (by decide))⟩, ⟨pl, h6.go (fc 13 (by decide)) (fc 14 (by decide)) (fc 15 (by decide)) (f78 26 (by decide)) (fm 85 (by decide)) (fm 87 (by decide))⟩, h7.go (fc 25 (by decide)) (fun j _ _ => f78 j (by omega)), nw, h9.go (fc 69 (by decide)) (fc 70 (by decide)) (fc 71 (by decide)) (f78 48 (by decide)) (fm 96 (by decide)) (fm 97 (by decide)), h10.go (by rw [fc 0 (by decide)]) (fc 72 (by decide)) (f78 43 (by decide)) (fm 94 (by decide)), h11.go (fc 73 (by decide)) (fc 74 (by decide)) (f78 45 (by decide)) (fm 95 (by decide)), h12.go (by rw [fc 16 (by decide)]) (fun b _ _ => fc b (by omega)) (f78 7 (by decide)) (fm 80 (by decide)) (fm 81 (by decide))⟩, fun b hb => ⟨fc b (by omega), by rw [fl]⟩, eM.trans he (fun b hb => ⟨fm b (by omega), by rw [f2]⟩)⟩
        · simp only [z1, z2, if_neg z10, gI_d, e1, if_pos q2, inb_n (show n < 6 by omega) (by decide), ck_t, nI_clamp (show n < 2 ^ 31 by omega), sI_n _ _ _ (show 66 ≠ 67 by decide), sI_n _ _ _ (show 66 ≠ 68 by decide), nI_1, bd_s, sI_s, pk_us, nI_pred, ← hμ', g1]
        · simp only [z1, z2, if_neg z10, gI_d, e2, if_neg q1, inb_n (show n < 6 by omega) (by decide), ck_t, nI_clamp (show n < 2 ^ 31 by omega), sI_n _ _ _ (show 78 ≠ 92 by decide), sI_n _ _ _ (show 78 ≠ 93 by decide), nI_1, sI_s, pk_us, nI_pred, ← hν', g2]
theorem k_port {i : Nat} (y0 y1 : Int32) : CALLS i (D_X11_port y0 y1) (D_X12_port y0 y1) := by
  intro μ ν0 h0
  obtain ⟨ν, hν, h, he⟩ := th_e h0
  have h' := h
  obtain ⟨h1, ⟨st, h2, h3, h4⟩, ⟨sh, h5⟩, ⟨pl, h6⟩, h7, h8, h9, h10, h11, h12⟩ := h'
  obtain ⟨n, n6, e1, e2, e3⟩ := h9
  have r1 := inN_k y0 (lo := 1) (hi := 9) (L := 1) (H := 9) (by decide) (by decide)
  have r2 := inN_k y1 (lo := 0) (hi := 9999) (L := 0) (H := 9999) (by decide) (by decide)
  unfold D_X11_port D_X12_port D_X3_keep B_X11_port_33
  simp only [lt1, ← hν, wi_e, ii_e, bd_s]
  by_cases hn : n = 6
  · have q1 : ν.1 78 48 = 6 := by rw [e2, hn]; rfl
    have q2 : ¬ μ.1 69 2 < 6 := by rw [e1, hn]; decide
    refine fin_e (r := -1) h he ?_ ?_
    · rcases r1 with z1 | ⟨z1, -⟩
      · simp only [z1, if_true]
      · rcases r2 with z2 | ⟨z2, -⟩
        · simp only [z1, z2, if_true, if_neg z10]
        · simp only [z1, z2, if_neg z10, gI_d, if_neg q2, bd_s]
    · simp only [gI_d, q1, if_true]
  · have q1 : ¬ nI n = 6 := by exact fun q => hn ((nI_eq (by omega) (by decide)).mp q)
    have q2 : nI n < 6 := by exact nI_lt (a := n) (b := 6) (by omega) (by omega)
    rcases r1 with z1 | ⟨z1, a1, a2⟩
    · exact fin_e (r := -1) h he (by simp only [z1, if_true]) (by simp only [gI_d, e2, if_neg q1, z1, if_true])
    · rcases r2 with z2 | ⟨z2, b1, b2⟩
      · exact fin_e (r := -1) h he (by simp only [z1, z2, if_true, if_neg z10]) (by simp only [gI_d, e2, if_neg q1, z1, z2, if_true, if_neg z10])
      · obtain ⟨μ', hμ'⟩ : ∃ μ', μ' = sI (sI (sI μ 70 n y0) 71 n y1) 69 2 (nI (n + 1)) := ⟨_, rfl⟩
        obtain ⟨ν', hν'⟩ : ∃ ν', ν' = sI (sI (sI ν 96 n y0) 97 n y1) 78 48 (nI (n + 1)) := ⟨_, rfl⟩
        have fc : ∀ b, ¬ (b = 69 ∨ b = 70 ∨ b = 71) → μ'.1 b = μ.1 b := fun b hb => by rw [hμ', sI_n _ _ _ (by omega), sI_n _ _ _ (by omega), sI_n _ _ _ (by omega)]
        have fm : ∀ b, ¬ (b = 78 ∨ b = 96 ∨ b = 97) → ν'.1 b = ν.1 b := fun b hb => by rw [hν', sI_n _ _ _ (by omega), sI_n _ _ _ (by omega), sI_n _ _ _ (by omega)]
        have f78 : ∀ j, j ≠ 48 → ν'.1 78 j = ν.1 78 j := fun j hj => by rw [hν', sI_s, pk_un hj, sI_n _ _ _ (by decide), sI_n _ _ _ (by decide)]
        have fl : μ'.2 = μ.2 := by rw [hμ']; rfl
        have f2 : ν'.2 = ν.2 := by rw [hν']; rfl
        have g1 : μ'.1 69 2 = nI (n + 1) := by rw [hμ', sI_s, pk_us]
        have g2 : ν'.1 78 48 = nI (n + 1) := by rw [hν', sI_s, pk_us]
        have g3 : μ'.1 70 = upd (μ.1 70) n y0 := by rw [hμ', sI_n _ _ _ (by decide), sI_n _ _ _ (by decide), sI_s]
        have g4 : μ'.1 71 = upd (μ.1 71) n y1 := by rw [hμ', sI_n _ _ _ (by decide), sI_s, sI_n _ _ _ (by decide)]
        have g5 : ν'.1 96 = upd (ν.1 96) n y0 := by rw [hν', sI_n _ _ _ (by decide), sI_n _ _ _ (by decide), sI_s]
        have g6 : ν'.1 97 = upd (ν.1 97) n y1 := by rw [hν', sI_n _ _ _ (by decide), sI_s, sI_n _ _ _ (by decide)]
        have nw : cO μ' ν' := by
          refine ⟨n + 1, by omega, g1, g2, fun k hk => ?_⟩
          rw [g3, g4, g5, g6]
          by_cases q : k = n
          · subst q
            rw [pk_us, pk_us, pk_us, pk_us]
            obtain ⟨d, d9, rfl⟩ := ti_nat (x := y0) (m := 9) (by omega) (by omega)
            rw [nI_toInt (by omega)] at a1
            exact ⟨⟨d, by omega, d9, rfl, rfl⟩, rfl, by omega, by omega⟩
          · rw [pk_un q, pk_un q, pk_un q, pk_un q]
            exact e3 k (by omega)
        refine ⟨nI n, μ', ν', ?_, ?_, ⟨h1.go (fc 1 (by decide)) (fc 2 (by decide)) (f78 6 (by decide)) (fm 79 (by decide)), ⟨st, h2.go (fc 7 (by decide)) (fc 8 (by decide)) (fc 9 (by decide)) (f78 24 (by decide)) (fm 83 (by decide)), h3.go (by omega) (fun b _ _ => fc b (by omega)) (by rw [fl]) (fun j _ => by rw [fm 89 (by decide)]) (fm 83 (by decide)) (by rw [f2]), h4.go (by omega) (fun b _ _ => fc b (by omega)) (by rw [fl]) (fm 91 (by decide)) (f78 36 (by decide)) (fm 83 (by decide)) (by rw [f2])⟩, ⟨sh, h5.go (fc 10 (by decide)) (fc 11 (by decide)) (fc 12 (by decide)) (f78 25 (by decide)) (fm 84 (by decide)) (fm 86 (by decide))⟩, ⟨pl, h6.go (fc 13 (by decide)) (fc 14 (by decide)) (fc 15 (by decide)) (f78 26 (by decide)) (fm 85 (by decide)) (fm 87 (by decide))⟩, h7.go (fc 25 (by decide)) (fun j _ _ => f78 j (by omega)), h8.go (fc 66 (by decide)) (fc 67 (by decide)) (fc 68 (by decide)) (f78 41 (by decide)) (fm 92 (by decide)) (fm 93 (by decide)), nw, h10.go (by rw [fc 0 (by decide)]) (fc 72 (by decide)) (f78 43 (by decide)) (fm 94 (by decide)), h11.go (fc 73 (by decide)) (fc 74 (by decide)) (f78 45 (by decide)) (fm 95 (by decide)), h12.go (by rw [fc 16 (by decide)]) (fun b _ _ => fc b (by omega)) (f78 7 (by decide)) (fm 80 (by decide)) (fm 81 (by decide))⟩, fun b hb => ⟨fc b (by omega), by rw [fl]⟩, eM.trans he (fun b hb => ⟨fm b (by omega), by rw [f2]⟩)⟩
        · simp only [z1, z2, if_neg z10, gI_d, e1, if_pos q2, inb_n (show n < 6 by omega) (by decide), ck_t, nI_clamp (show n < 2 ^ 31 by omega), sI_n _ _ _ (show 69 ≠ 70 by decide), sI_n _ _ _ (show 69 ≠ 71 by decide), nI_1, bd_s, sI_s, pk_us, nI_pred, ← hμ', g1]
        · simp only [z1, z2, if_neg z10, gI_d, e2, if_neg q1, inb_n (show n < 6 by omega) (by decide), ck_t, nI_clamp (show n < 2 ^ 31 by omega), sI_n _ _ _ (show 78 ≠ 96 by decide), sI_n _ _ _ (show 78 ≠ 97 by decide), nI_1, sI_s, pk_us, nI_pred, ← hν', g2]
theorem k_log {i : Nat} (y0 : Int32) : CALLS i (D_X11_log y0) (D_X12_log y0) := by
  intro μ ν0 h0
  obtain ⟨ν, hν, h, he⟩ := th_e h0
  have h' := h
  obtain ⟨h1, ⟨st, h2, h3, h4⟩, ⟨sh, h5⟩, ⟨pl, h6⟩, h7, h8, h9, h10, h11, h12⟩ := h'
  obtain ⟨n, n6, e1, e2, e3⟩ := h10
  have r1 := inN_k y0 (lo := -60) (hi := 60) (L := -60) (H := 60) (by decide) (by decide)
  unfold D_X11_log D_X12_log 
  simp only [lt1, ← hν, wi_e, ii_e, bd_s]
  by_cases hn : n = 20
  · have q1 : ν.1 78 43 = 20 := by rw [e2, hn]; rfl
    have q2 : ¬ μ.1 0 15 < 20 := by rw [e1, hn]; decide
    refine fin_e (r := -1) h he ?_ ?_
    · rcases r1 with z1 | ⟨z1, -⟩
      · simp only [z1, if_true]
      · simp only [z1, if_neg z10, gI_d, if_neg q2, bd_s]
    · simp only [gI_d, q1, if_true]
  · have q1 : ¬ nI n = 20 := by exact fun q => hn ((nI_eq (by omega) (by decide)).mp q)
    have q2 : nI n < 20 := by exact nI_lt (a := n) (b := 20) (by omega) (by omega)
    rcases r1 with z1 | ⟨z1, a1, a2⟩
    · exact fin_e (r := -1) h he (by simp only [z1, if_true]) (by simp only [gI_d, e2, if_neg q1, z1, if_true])
    · obtain ⟨μ', hμ'⟩ : ∃ μ', μ' = sI (sI μ 72 n y0) 0 15 (nI (n + 1)) := ⟨_, rfl⟩
      obtain ⟨ν', hν'⟩ : ∃ ν', ν' = sI (sI ν 94 n y0) 78 43 (nI (n + 1)) := ⟨_, rfl⟩
      have fc : ∀ b, ¬ (b = 0 ∨ b = 72) → μ'.1 b = μ.1 b := fun b hb => by rw [hμ', sI_n _ _ _ (by omega), sI_n _ _ _ (by omega)]
      have fm : ∀ b, ¬ (b = 78 ∨ b = 94) → ν'.1 b = ν.1 b := fun b hb => by rw [hν', sI_n _ _ _ (by omega), sI_n _ _ _ (by omega)]
      have f78 : ∀ j, j ≠ 43 → ν'.1 78 j = ν.1 78 j := fun j hj => by rw [hν', sI_s, pk_un hj, sI_n _ _ _ (by decide)]
      have fl : μ'.2 = μ.2 := by rw [hμ']; rfl
      have f2 : ν'.2 = ν.2 := by rw [hν']; rfl
      have g1 : μ'.1 0 15 = nI (n + 1) := by rw [hμ', sI_s, pk_us]
      have g2 : ν'.1 78 43 = nI (n + 1) := by rw [hν', sI_s, pk_us]
      have g3 : μ'.1 72 = upd (μ.1 72) n y0 := by rw [hμ', sI_n _ _ _ (by decide), sI_s]
      have g5 : ν'.1 94 = upd (ν.1 94) n y0 := by rw [hν', sI_n _ _ _ (by decide), sI_s]
      have nw : cG μ' ν' := by
        refine ⟨n + 1, by omega, g1, g2, fun k hk => ?_⟩
        rw [g3, g5]
        by_cases q : k = n
        · subst q
          rw [pk_us, pk_us]
          exact ⟨rfl, a1, a2⟩
        · rw [pk_un q, pk_un q]
          exact e3 k (by omega)
      refine ⟨nI (n + 1), μ', ν', ?_, ?_, ⟨h1.go (fc 1 (by decide)) (fc 2 (by decide)) (f78 6 (by decide)) (fm 79 (by decide)), ⟨st, h2.go (fc 7 (by decide)) (fc 8 (by decide)) (fc 9 (by decide)) (f78 24 (by decide)) (fm 83 (by decide)), h3.go (by omega) (fun b _ _ => fc b (by omega)) (by rw [fl]) (fun j _ => by rw [fm 89 (by decide)]) (fm 83 (by decide)) (by rw [f2]), h4.go (by omega) (fun b _ _ => fc b (by omega)) (by rw [fl]) (fm 91 (by decide)) (f78 36 (by decide)) (fm 83 (by decide)) (by rw [f2])⟩, ⟨sh, h5.go (fc 10 (by decide)) (fc 11 (by decide)) (fc 12 (by decide)) (f78 25 (by decide)) (fm 84 (by decide)) (fm 86 (by decide))⟩, ⟨pl, h6.go (fc 13 (by decide)) (fc 14 (by decide)) (fc 15 (by decide)) (f78 26 (by decide)) (fm 85 (by decide)) (fm 87 (by decide))⟩, h7.go (fc 25 (by decide)) (fun j _ _ => f78 j (by omega)), h8.go (fc 66 (by decide)) (fc 67 (by decide)) (fc 68 (by decide)) (f78 41 (by decide)) (fm 92 (by decide)) (fm 93 (by decide)), h9.go (fc 69 (by decide)) (fc 70 (by decide)) (fc 71 (by decide)) (f78 48 (by decide)) (fm 96 (by decide)) (fm 97 (by decide)), nw, h11.go (fc 73 (by decide)) (fc 74 (by decide)) (f78 45 (by decide)) (fm 95 (by decide)), h12.go (by rw [fc 16 (by decide)]) (fun b _ _ => fc b (by omega)) (f78 7 (by decide)) (fm 80 (by decide)) (fm 81 (by decide))⟩, fun b hb => ⟨fc b (by omega), by rw [fl]⟩, eM.trans he (fun b hb => ⟨fm b (by omega), by rw [f2]⟩)⟩
      · simp only [z1, if_neg z10, gI_d, e1, if_pos q2, inb_n (show n < 20 by omega) (by decide), ck_t, nI_clamp (show n < 2 ^ 31 by omega), sI_n _ _ _ (show 0 ≠ 72 by decide), nI_1, bd_s, sI_s, pk_us, ← hμ', g1]
      · simp only [z1, if_neg z10, gI_d, e2, if_neg q1, inb_n (show n < 20 by omega) (by decide), ck_t, nI_clamp (show n < 2 ^ 31 by omega), sI_n _ _ _ (show 78 ≠ 94 by decide), nI_1, sI_s, pk_us, ← hν', g2]
theorem k_heap {i : Nat} (y0 : Int32) : CALLS i (D_X11_heap y0) (D_X12_heap y0) := by
  intro μ ν0 h0
  obtain ⟨ν, hν, h, he⟩ := th_e h0
  have h' := h
  obtain ⟨h1, ⟨st, h2, h3, h4⟩, ⟨sh, h5⟩, ⟨pl, h6⟩, h7, h8, h9, h10, h11, h12⟩ := h'
  obtain ⟨n, n6, e1, e2, e3⟩ := h11
  have r1 := inN_k y0 (lo := 0) (hi := 99) (L := 0) (H := 99) (by decide) (by decide)
  unfold D_X11_heap D_X12_heap D_X0_keep
  simp only [lt1, ← hν, wi_e, ii_e, bd_s]
  by_cases hn : n = 60
  · have q1 : ν.1 78 45 = 60 := by rw [e2, hn]; rfl
    have q2 : ¬ μ.1 73 1 < 60 := by rw [e1, hn]; decide
    refine fin_e (r := -1) h he ?_ ?_
    · rcases r1 with z1 | ⟨z1, -⟩
      · simp only [z1, if_true]
      · simp only [z1, if_neg z10, gI_d, if_neg q2, bd_s]
    · simp only [gI_d, q1, if_true]
  · have q1 : ¬ nI n = 60 := by exact fun q => hn ((nI_eq (by omega) (by decide)).mp q)
    have q2 : nI n < 60 := by exact nI_lt (a := n) (b := 60) (by omega) (by omega)
    rcases r1 with z1 | ⟨z1, a1, a2⟩
    · exact fin_e (r := -1) h he (by simp only [z1, if_true]) (by simp only [gI_d, e2, if_neg q1, z1, if_true])
    · obtain ⟨μ', hμ'⟩ : ∃ μ', μ' = sI (sI μ 74 n y0) 73 1 (nI (n + 1)) := ⟨_, rfl⟩
      obtain ⟨ν', hν'⟩ : ∃ ν', ν' = sI (sI ν 95 n y0) 78 45 (nI (n + 1)) := ⟨_, rfl⟩
      have fc : ∀ b, ¬ (b = 73 ∨ b = 74) → μ'.1 b = μ.1 b := fun b hb => by rw [hμ', sI_n _ _ _ (by omega), sI_n _ _ _ (by omega)]
      have fm : ∀ b, ¬ (b = 78 ∨ b = 95) → ν'.1 b = ν.1 b := fun b hb => by rw [hν', sI_n _ _ _ (by omega), sI_n _ _ _ (by omega)]
      have f78 : ∀ j, j ≠ 45 → ν'.1 78 j = ν.1 78 j := fun j hj => by rw [hν', sI_s, pk_un hj, sI_n _ _ _ (by decide)]
      have fl : μ'.2 = μ.2 := by rw [hμ']; rfl
      have f2 : ν'.2 = ν.2 := by rw [hν']; rfl
      have g1 : μ'.1 73 1 = nI (n + 1) := by rw [hμ', sI_s, pk_us]
      have g2 : ν'.1 78 45 = nI (n + 1) := by rw [hν', sI_s, pk_us]
      have g3 : μ'.1 74 = upd (μ.1 74) n y0 := by rw [hμ', sI_n _ _ _ (by decide), sI_s]
      have g5 : ν'.1 95 = upd (ν.1 95) n y0 := by rw [hν', sI_n _ _ _ (by decide), sI_s]
      have nw : cE μ' ν' := by
        refine ⟨n + 1, by omega, g1, g2, fun k hk => ?_⟩
        rw [g3, g5]
        by_cases q : k = n
        · subst q
          rw [pk_us, pk_us]
          done
        · rw [pk_un q, pk_un q]
          exact e3 k (by omega)
      refine ⟨nI (n + 1), μ', ν', ?_, ?_, ⟨h1.go (fc 1 (by decide)) (fc 2 (by decide)) (f78 6 (by decide)) (fm 79 (by decide)), ⟨st, h2.go (fc 7 (by decide)) (fc 8 (by decide)) (fc 9 (by decide)) (f78 24 (by decide)) (fm 83 (by decide)), h3.go (by omega) (fun b _ _ => fc b (by omega)) (by rw [fl]) (fun j _ => by rw [fm 89 (by decide)]) (fm 83 (by decide)) (by rw [f2]), h4.go (by omega) (fun b _ _ => fc b (by omega)) (by rw [fl]) (fm 91 (by decide)) (f78 36 (by decide)) (fm 83 (by decide)) (by rw [f2])⟩, ⟨sh, h5.go (fc 10 (by decide)) (fc 11 (by decide)) (fc 12 (by decide)) (f78 25 (by decide)) (fm 84 (by decide)) (fm 86 (by decide))⟩, ⟨pl, h6.go (fc 13 (by decide)) (fc 14 (by decide)) (fc 15 (by decide)) (f78 26 (by decide)) (fm 85 (by decide)) (fm 87 (by decide))⟩, h7.go (fc 25 (by decide)) (fun j _ _ => f78 j (by omega)), h8.go (fc 66 (by decide)) (fc 67 (by decide)) (fc 68 (by decide)) (f78 41 (by decide)) (fm 92 (by decide)) (fm 93 (by decide)), h9.go (fc 69 (by decide)) (fc 70 (by decide)) (fc 71 (by decide)) (f78 48 (by decide)) (fm 96 (by decide)) (fm 97 (by decide)), h10.go (by rw [fc 0 (by decide)]) (fc 72 (by decide)) (f78 43 (by decide)) (fm 94 (by decide)), nw, h12.go (by rw [fc 16 (by decide)]) (fun b _ _ => fc b (by omega)) (f78 7 (by decide)) (fm 80 (by decide)) (fm 81 (by decide))⟩, fun b hb => ⟨fc b (by omega), by rw [fl]⟩, eM.trans he (fun b hb => ⟨fm b (by omega), by rw [f2]⟩)⟩
      · simp only [z1, if_neg z10, gI_d, e1, if_pos q2, inb_n (show n < 60 by omega) (by decide), ck_t, nI_clamp (show n < 2 ^ 31 by omega), sI_n _ _ _ (show 73 ≠ 74 by decide), nI_1, bd_s, sI_s, pk_us, ← hμ', g1]
      · simp only [z1, if_neg z10, gI_d, e2, if_neg q1, inb_n (show n < 60 by omega) (by decide), ck_t, nI_clamp (show n < 2 ^ 31 by omega), sI_n _ _ _ (show 78 ≠ 95 by decide), nI_1, sI_s, pk_us, ← hν', g2]
