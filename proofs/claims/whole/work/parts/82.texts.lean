/-! a text of items, told -/
theorem cT_0 {μ ν : gs_M} (h1 : μ.1 1 1 = 0) (h2 : ν.1 78 6 = 0) : cT μ ν := ⟨0, by omega, h1, h2, fun j hj => by omega⟩
theorem k_text_0 {i : Nat} : CALLS i (D_X11_text 0) (D_X12_text 0) := by
  intro μ ν h
  have h' := h
  obtain ⟨h1, ⟨st, h2, h3, h4⟩, ⟨sh, h5⟩, ⟨pl, h6⟩, h7, h8, h9, h10, h11, h12⟩ := h'
  obtain ⟨a1, a2, a3, a4, a5⟩ := h2
  obtain ⟨r, μ', ν', t1, t2, t3, t4, t5⟩ := tx_e (k := 0) (e := st) (cap := 6) (by omega) rfl a1 a2 a3 a4 h
  refine ⟨r, μ', ν', t1, t2, ?_, t3, t4⟩
  rcases t5 with t5 | ⟨hst, R, ⟨hR1, -, hR0⟩, c1, c2, c3, c4, c5, c6, c7, c8, m1, m2, m3, m4, m5, -, m7, w⟩
  · exact t5
  have hR := hR0 rfl
  subst hR
  have WD0 : WD 0 = 5 := rfl
  rw [WD0] at m5 w
  have M1 : ∀ b, b ≠ 78 → b ≠ 83 → ν'.1 b = ν.1 b := fun b b1 b2 => m1 b b1 b2 (fun h => absurd rfl h)
  have nw : uE μ' ν' st := by
    have w0 := fun j (hj : j < 5) => w 0 (by omega) j hj
    refine ⟨c5, fun j hj => (w0 j hj).1, ?_⟩
    obtain ⟨n0, -, q0, e0⟩ := vl_n (lo := 0) (hi := 20) (w0 0 (by omega)).2 (by decide) (by decide)
    obtain ⟨n1, -, q1, e1⟩ := vl_n (lo := 0) (hi := 30) (w0 1 (by omega)).2 (by decide) (by decide)
    obtain ⟨n2, -, q2, e2⟩ := vl_n (lo := 0) (hi := 30) (w0 2 (by omega)).2 (by decide) (by decide)
    obtain ⟨n3, -, q3, e3⟩ := vl_n (lo := 0) (hi := 999) (w0 3 (by omega)).2 (by decide) (by decide)
    obtain ⟨n4, p4, q4, e4⟩ := vl_n (lo := 1) (hi := 9) (w0 4 (by omega)).2 (by decide) (by decide)
    exact ⟨n0, n1, n2, n3, n4, q0, q1, q2, q3, p4, q4, e0, e1, e2, e3, e4⟩
  have o78 : ∀ j, 24 < j ∨ j = 7 → ν'.1 78 j = ν.1 78 j := fun j hj => m2 j (by omega) (by omega) (by omega) (by omega) (by omega) (by omega) (by omega) (by omega)
  refine ⟨cT_0 c3 m3, ⟨st + 1, ⟨by omega, c4, (c2 0 (by decide)).trans a3, m4, fun e he => ?_⟩, h3.tab (by omega) (by omega) (fun b _ _ => c1 b (by omega) (by omega) (by omega) (by omega) (by omega) (by omega)) (by rw [c8]) (fun j _ => by rw [M1 89 (by decide) (by decide)]) m5 (by rw [m7]), h4.tab (by omega) (by omega) (fun b _ _ => c1 b (by omega) (by omega) (by omega) (by omega) (by omega) (by omega)) (by rw [c8]) (M1 91 (by decide) (by decide)) (o78 36 (by omega)) m5 (by rw [m7])⟩, ⟨sh, h5.go (c1 10 (by decide) (by decide) (by decide) (by decide) (by decide) (by decide)) (c1 11 (by decide) (by decide) (by decide) (by decide) (by decide) (by decide)) (c1 12 (by decide) (by decide) (by decide) (by decide) (by decide) (by decide)) (o78 25 (by omega)) (M1 84 (by decide) (by decide)) (M1 86 (by decide) (by decide))⟩, ⟨pl, h6.go (c1 13 (by decide) (by decide) (by decide) (by decide) (by decide) (by decide)) (c1 14 (by decide) (by decide) (by decide) (by decide) (by decide) (by decide)) (c1 15 (by decide) (by decide) (by decide) (by decide) (by decide) (by decide)) (o78 26 (by omega)) (M1 85 (by decide) (by decide)) (M1 87 (by decide) (by decide))⟩, h7.go (c1 25 (by decide) (by decide) (by decide) (by decide) (by decide) (by decide)) (fun j j1 j2 => o78 j (by omega)), h8.go (c1 66 (by decide) (by decide) (by decide) (by decide) (by decide) (by decide)) (c1 67 (by decide) (by decide) (by decide) (by decide) (by decide) (by decide)) (c1 68 (by decide) (by decide) (by decide) (by decide) (by decide) (by decide)) (o78 41 (by omega)) (M1 92 (by decide) (by decide)) (M1 93 (by decide) (by decide)), h9.go (c1 69 (by decide) (by decide) (by decide) (by decide) (by decide) (by decide)) (c1 70 (by decide) (by decide) (by decide) (by decide) (by decide) (by decide)) (c1 71 (by decide) (by decide) (by decide) (by decide) (by decide) (by decide)) (o78 48 (by omega)) (M1 96 (by decide) (by decide)) (M1 97 (by decide) (by decide)), h10.go (by rw [c1 0 (by decide) (by decide) (by decide) (by decide) (by decide) (by decide)]) (c1 72 (by decide) (by decide) (by decide) (by decide) (by decide) (by decide)) (o78 43 (by omega)) (M1 94 (by decide) (by decide)), h11.go (c1 73 (by decide) (by decide) (by decide) (by decide) (by decide) (by decide)) (c1 74 (by decide) (by decide) (by decide) (by decide) (by decide) (by decide)) (o78 45 (by omega)) (M1 95 (by decide) (by decide)), h12.go (by rw [c1 16 (by decide) (by decide) (by decide) (by decide) (by decide) (by decide)]) (fun b _ _ => c1 b (by omega) (by omega) (by omega) (by omega) (by omega) (by omega)) (o78 7 (by omega)) (M1 80 (by decide) (by decide)) (M1 81 (by decide) (by decide))⟩
  by_cases q : e = st
  · subst q
    exact nw
  · have he' : e < st := by omega
    exact uE.go (a5 e he') (c6 e (by omega)) (fun j hj => c7 _ (by omega)) (fun j hj => m5 _ (by omega))
theorem k_text_1 {i : Nat} : CALLS i (D_X11_text 1) (D_X12_text 1) := by
  intro μ ν h
  have h' := h
  obtain ⟨h1, ⟨st, h2, h3, h4⟩, ⟨sh, h5⟩, ⟨pl, h6⟩, h7, h8, h9, h10, h11, h12⟩ := h'
  obtain ⟨a1, a2, a3, a4, a5⟩ := h5
  obtain ⟨r, μ', ν', t1, t2, t3, t4, t5⟩ := tx_e (k := 1) (e := sh) (cap := 3) (by omega) rfl a1 a2 a3 a4 h
  refine ⟨r, μ', ν', t1, t2, ?_, t3, t4⟩
  rcases t5 with t5 | ⟨hst, R, ⟨hR1, hR4, -⟩, c1, c2, c3, c4, c5, c6, c7, c8, m1, m2, m3, m4, m5, m6, m7, w⟩
  · exact t5
  obtain ⟨m6a, m6b⟩ := m6 (by decide)
  have WD1 : WD 1 = 20 := rfl
  rw [WD1] at m5 w
  have M1 : ∀ b, b ≠ 78 → b ≠ 84 → b ≠ 86 → ν'.1 b = ν.1 b := fun b b1 b2 b3 => m1 b b1 b2 (fun _ => b3)
  have nw : hR μ' ν' sh R := by
    refine ⟨hR1, hR4, c5, m6b, fun k hk => ⟨fun j hj => (w k hk j hj).1, ?_⟩⟩
    obtain ⟨n0, p0, q0, e0⟩ := vl_n (lo := 2) (hi := 12) (w k hk 0 (by decide)).2 (by decide) (by decide)
    obtain ⟨n1, p1, q1, e1⟩ := vl_n (lo := 4) (hi := 40) (w k hk 1 (by decide)).2 (by decide) (by decide)
    exact ⟨n0, n1, p0, q0, p1, q1, e0, e1⟩
  have o78 : ∀ j, 25 < j ∨ j = 7 ∨ j = 24 → ν'.1 78 j = ν.1 78 j := fun j hj => m2 j (by omega) (by omega) (by omega) (by omega) (by omega) (by omega) (by omega) (by omega)
  refine ⟨cT_0 c3 m3, ⟨st, h2.go (c1 7 (by decide) (by decide) (by decide) (by decide) (by decide) (by decide)) (c1 8 (by decide) (by decide) (by decide) (by decide) (by decide) (by decide)) (c1 9 (by decide) (by decide) (by decide) (by decide) (by decide) (by decide)) (o78 24 (by omega)) (M1 83 (by decide) (by decide) (by decide)), h3.tab (by omega) (by omega) (fun b _ _ => c1 b (by omega) (by omega) (by omega) (by omega) (by omega) (by omega)) (by rw [c8]) (fun j _ => by rw [M1 89 (by decide) (by decide) (by decide)]) (fun j _ => by rw [M1 83 (by decide) (by decide) (by decide)]) (by rw [m7]), h4.tab (by omega) (by omega) (fun b _ _ => c1 b (by omega) (by omega) (by omega) (by omega) (by omega) (by omega)) (by rw [c8]) (M1 91 (by decide) (by decide) (by decide)) (o78 36 (by omega)) (fun j _ => by rw [M1 83 (by decide) (by decide) (by decide)]) (by rw [m7])⟩, ⟨sh + 1, ⟨by omega, c4, (c2 0 (by decide)).trans a3, m4, fun e he => ?_⟩⟩, ⟨pl, h6.go (c1 13 (by decide) (by decide) (by decide) (by decide) (by decide) (by decide)) (c1 14 (by decide) (by decide) (by decide) (by decide) (by decide) (by decide)) (c1 15 (by decide) (by decide) (by decide) (by decide) (by decide) (by decide)) (o78 26 (by omega)) (M1 85 (by decide) (by decide) (by decide)) (M1 87 (by decide) (by decide) (by decide))⟩, h7.go (c1 25 (by decide) (by decide) (by decide) (by decide) (by decide) (by decide)) (fun j j1 j2 => o78 j (by omega)), h8.go (c1 66 (by decide) (by decide) (by decide) (by decide) (by decide) (by decide)) (c1 67 (by decide) (by decide) (by decide) (by decide) (by decide) (by decide)) (c1 68 (by decide) (by decide) (by decide) (by decide) (by decide) (by decide)) (o78 41 (by omega)) (M1 92 (by decide) (by decide) (by decide)) (M1 93 (by decide) (by decide) (by decide)), h9.go (c1 69 (by decide) (by decide) (by decide) (by decide) (by decide) (by decide)) (c1 70 (by decide) (by decide) (by decide) (by decide) (by decide) (by decide)) (c1 71 (by decide) (by decide) (by decide) (by decide) (by decide) (by decide)) (o78 48 (by omega)) (M1 96 (by decide) (by decide) (by decide)) (M1 97 (by decide) (by decide) (by decide)), h10.go (by rw [c1 0 (by decide) (by decide) (by decide) (by decide) (by decide) (by decide)]) (c1 72 (by decide) (by decide) (by decide) (by decide) (by decide) (by decide)) (o78 43 (by omega)) (M1 94 (by decide) (by decide) (by decide)), h11.go (c1 73 (by decide) (by decide) (by decide) (by decide) (by decide) (by decide)) (c1 74 (by decide) (by decide) (by decide) (by decide) (by decide) (by decide)) (o78 45 (by omega)) (M1 95 (by decide) (by decide) (by decide)), h12.go (by rw [c1 16 (by decide) (by decide) (by decide) (by decide) (by decide) (by decide)]) (fun b _ _ => c1 b (by omega) (by omega) (by omega) (by omega) (by omega) (by omega)) (o78 7 (by omega)) (M1 80 (by decide) (by decide) (by decide)) (M1 81 (by decide) (by decide) (by decide))⟩
  by_cases q : e = sh
  · subst q
    exact ⟨R, nw⟩
  · have he' : e < sh := by omega
    obtain ⟨r0, hr0⟩ := a5 e he'
    exact ⟨r0, hr0.go (c6 e (by omega)) (m6a e he') (fun j hj => c7 _ (by omega)) (fun j hj => m5 _ (by omega))⟩
theorem k_text_2 {i : Nat} : CALLS i (D_X11_text 2) (D_X12_text 2) := by
  intro μ ν h
  have h' := h
  obtain ⟨h1, ⟨st, h2, h3, h4⟩, ⟨sh, h5⟩, ⟨pl, h6⟩, h7, h8, h9, h10, h11, h12⟩ := h'
  obtain ⟨a1, a2, a3, a4, a5⟩ := h6
  obtain ⟨r, μ', ν', t1, t2, t3, t4, t5⟩ := tx_e (k := 2) (e := pl) (cap := 6) (by omega) rfl a1 a2 a3 a4 h
  refine ⟨r, μ', ν', t1, t2, ?_, t3, t4⟩
  rcases t5 with t5 | ⟨hst, R, ⟨hR1, hR4, -⟩, c1, c2, c3, c4, c5, c6, c7, c8, m1, m2, m3, m4, m5, m6, m7, w⟩
  · exact t5
  obtain ⟨m6a, m6b⟩ := m6 (by decide)
  have WD2 : WD 2 = 20 := rfl
  rw [WD2] at m5 w
  have M1 : ∀ b, b ≠ 78 → b ≠ 85 → b ≠ 87 → ν'.1 b = ν.1 b := fun b b1 b2 b3 => m1 b b1 b2 (fun _ => b3)
  have nw : pR μ' ν' pl R := by
    refine ⟨hR1, hR4, c5, m6b, fun k hk => ⟨fun j hj => (w k hk j hj).1, ?_⟩⟩
    obtain ⟨n0, -, q0, e0⟩ := vl_n (lo := 0) (hi := 5) (w k hk 0 (by decide)).2 (by decide) (by decide)
    obtain ⟨n1, -, q1, e1⟩ := vl_n (lo := 0) (hi := 480) (w k hk 1 (by decide)).2 (by decide) (by decide)
    obtain ⟨n2, -, q2, e2⟩ := vl_n (lo := 0) (hi := 1) (w k hk 2 (by decide)).2 (by decide) (by decide)
    obtain ⟨n3, -, q3, e3⟩ := vl_n (lo := 0) (hi := 40) (w k hk 3 (by decide)).2 (by decide) (by decide)
    obtain ⟨n4, -, q4, e4⟩ := vl_n (lo := 0) (hi := 3) (w k hk 4 (by decide)).2 (by decide) (by decide)
    exact ⟨n0, n1, n2, n3, n4, q0, q1, q2, q3, q4, e0, e1, e2, e3, e4⟩
  have o78 : ∀ j, 26 < j ∨ j = 7 ∨ j = 24 ∨ j = 25 → ν'.1 78 j = ν.1 78 j := fun j hj => m2 j (by omega) (by omega) (by omega) (by omega) (by omega) (by omega) (by omega) (by omega)
  refine ⟨cT_0 c3 m3, ⟨st, h2.go (c1 7 (by decide) (by decide) (by decide) (by decide) (by decide) (by decide)) (c1 8 (by decide) (by decide) (by decide) (by decide) (by decide) (by decide)) (c1 9 (by decide) (by decide) (by decide) (by decide) (by decide) (by decide)) (o78 24 (by omega)) (M1 83 (by decide) (by decide) (by decide)), h3.tab (by omega) (by omega) (fun b _ _ => c1 b (by omega) (by omega) (by omega) (by omega) (by omega) (by omega)) (by rw [c8]) (fun j _ => by rw [M1 89 (by decide) (by decide) (by decide)]) (fun j _ => by rw [M1 83 (by decide) (by decide) (by decide)]) (by rw [m7]), h4.tab (by omega) (by omega) (fun b _ _ => c1 b (by omega) (by omega) (by omega) (by omega) (by omega) (by omega)) (by rw [c8]) (M1 91 (by decide) (by decide) (by decide)) (o78 36 (by omega)) (fun j _ => by rw [M1 83 (by decide) (by decide) (by decide)]) (by rw [m7])⟩, ⟨sh, h5.go (c1 10 (by decide) (by decide) (by decide) (by decide) (by decide) (by decide)) (c1 11 (by decide) (by decide) (by decide) (by decide) (by decide) (by decide)) (c1 12 (by decide) (by decide) (by decide) (by decide) (by decide) (by decide)) (o78 25 (by omega)) (M1 84 (by decide) (by decide) (by decide)) (M1 86 (by decide) (by decide) (by decide))⟩, ⟨pl + 1, ⟨by omega, c4, (c2 0 (by decide)).trans a3, m4, fun e he => ?_⟩⟩, h7.go (c1 25 (by decide) (by decide) (by decide) (by decide) (by decide) (by decide)) (fun j j1 j2 => o78 j (by omega)), h8.go (c1 66 (by decide) (by decide) (by decide) (by decide) (by decide) (by decide)) (c1 67 (by decide) (by decide) (by decide) (by decide) (by decide) (by decide)) (c1 68 (by decide) (by decide) (by decide) (by decide) (by decide) (by decide)) (o78 41 (by omega)) (M1 92 (by decide) (by decide) (by decide)) (M1 93 (by decide) (by decide) (by decide)), h9.go (c1 69 (by decide) (by decide) (by decide) (by decide) (by decide) (by decide)) (c1 70 (by decide) (by decide) (by decide) (by decide) (by decide) (by decide)) (c1 71 (by decide) (by decide) (by decide) (by decide) (by decide) (by decide)) (o78 48 (by omega)) (M1 96 (by decide) (by decide) (by decide)) (M1 97 (by decide) (by decide) (by decide)), h10.go (by rw [c1 0 (by decide) (by decide) (by decide) (by decide) (by decide) (by decide)]) (c1 72 (by decide) (by decide) (by decide) (by decide) (by decide) (by decide)) (o78 43 (by omega)) (M1 94 (by decide) (by decide) (by decide)), h11.go (c1 73 (by decide) (by decide) (by decide) (by decide) (by decide) (by decide)) (c1 74 (by decide) (by decide) (by decide) (by decide) (by decide) (by decide)) (o78 45 (by omega)) (M1 95 (by decide) (by decide) (by decide)), h12.go (by rw [c1 16 (by decide) (by decide) (by decide) (by decide) (by decide) (by decide)]) (fun b _ _ => c1 b (by omega) (by omega) (by omega) (by omega) (by omega) (by omega)) (o78 7 (by omega)) (M1 80 (by decide) (by decide) (by decide)) (M1 81 (by decide) (by decide) (by decide))⟩
  by_cases q : e = pl
  · subst q
    exact ⟨R, nw⟩
  · have he' : e < pl := by omega
    obtain ⟨r0, hr0⟩ := a5 e he'
    exact ⟨r0, hr0.go (c6 e (by omega)) (m6a e he') (fun j hj => c7 _ (by omega)) (fun j hj => m5 _ (by omega))⟩
