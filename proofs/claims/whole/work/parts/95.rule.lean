/-! fault and text, of all sorts -/
theorem RF.kc {μ μ' : gs_M} (h : RF μ μ') : kC μ μ' := ⟨fun b hb => h.1 b (by omega) (by omega), by rw [h.1 16 (by decide) (by decide)], by rw [h.2], by rw [h.2]⟩
theorem RG.km {ν ν' : gs_M} (h : RG ν ν') : kM ν ν' := ⟨fun b hb => h.1 b (by omega), fun j _ => by rw [h.1 89 (by decide)], fun j hj => h.2.1 j (by omega), by rw [h.2.2], by rw [h.2.2]⟩
theorem RF.e {μ μ' : gs_M} (h : RF μ μ') : eC μ μ' := fun b hb => ⟨h.1 b (by omega) (by omega), by rw [h.2]⟩
theorem RG.e {ν ν' : gs_M} (h : RG ν ν') : eM ν ν' := fun b hb => ⟨h.1 b (by omega), by rw [h.2.2]⟩
theorem in3 (x : Int32) : ((x < 0 ∨ nI 4 ≤ x) ∧ inN x 0 3 = 0) ∨ ∃ k, k < 4 ∧ x = nI k ∧ inN x 0 3 = 1 := inN_n (x := x) (n := 4) (by decide) (by decide)
/-- a rule on the tape, in both -/
theorem rf_e {μ ν : gs_M} (h : cT μ ν) : ∃ (f : Int32) (μ' ν' : gs_M) (n : Nat), n ≤ 160 ∧ μ.1 1 1 = nI n ∧ ν.1 78 6 = nI n ∧ (∀ j, j < n → ∃ s, 1 ≤ s ∧ s ≤ 255 ∧ μ.1 2 j = nI s ∧ ν.1 79 j = by8 s) ∧ D_X5_readAll μ = some (f, μ') ∧ D_X12_fault 3 ν = some (f, ν') ∧ RF μ μ' ∧ RG ν ν' ∧ (f = -1 → ∃ m, m ≤ 160 ∧ μ'.1 5 4 = nI m) := by
  obtain ⟨n, h1, h2, h3, h4⟩ := h
  have g0 : RG ν (sI ν 78 0 0) := RG.s (by omega)
  obtain ⟨f, μ', ν', t1, t2, t3, t4, t5, t6, t7⟩ := rar_e (B := 79) (b0 := 0) (ν := sI ν 78 0 0) h1 h2 (Or.inl ⟨rfl, rfl⟩) (fun j hj => by rw [Nat.zero_add, sI_n _ _ _ (by decide)]; exact h4 j hj)
  refine ⟨f, μ', ν', n, h1, h2, h3, h4, t1, ?_, t3, g0.trans t4, fun e => ?_⟩
  · unfold D_X12_fault
    rw [lt1, ii_e, bd_s, show inN 3 0 3 = 1 by decide, if_neg z10, if_pos rfl, gI_d, sI_o _ _ (by decide), h3]
    rw [show (0 : Int32) = nI 0 from rfl] at *
    rw [t2, bd0_s, gI_d, t5]
  · obtain ⟨m, m1, m2, -⟩ := t7 e
    exact ⟨m, m1, m2⟩
theorem k_fault {i : Nat} (x : Int32) : CALLS i (D_X11_fault x) (D_X12_fault x) := by
  rcases in3 x with ⟨-, e⟩ | ⟨k, hk, rfl, e⟩
  · intro μ ν h
    have g0 : RG ν (sI ν 78 0 0) := RG.s (by omega)
    refine ⟨-2, μ, sI ν 78 0 0, ?_, ?_, h.go (by omega) kC.refl g0.km, eC.refl, g0.e⟩
    · unfold D_X11_fault
      rw [wi_e, bd_s, e, if_pos rfl]
    · unfold D_X12_fault
      rw [lt1, ii_e, bd_s, e, if_pos rfl]
  · by_cases q : k = 3
    · subst q
      intro μ ν h
      obtain ⟨f, μ', ν', n, -, -, -, -, t1, t2, t3, t4, -⟩ := rf_e h.1
      refine ⟨f, μ', ν', ?_, t2, h.go (by omega) t3.kc t4.km, t3.e, t4.e⟩
      unfold D_X11_fault
      rw [wi_e, bd_s, e, if_neg z10, if_pos (show nI 3 = 3 from rfl), t1, bd_s]
    · exact k_fault_i (by omega)
/-! keeping a rule -/
theorem kp_l {r m : Nat} (hr : r < 4) (hm : m ≤ 160) : ∀ (i c fu : Nat) (μ : gs_M), c + i = m → i < fu → μ.1 16 1 = nI r → μ.1 5 4 = nI m → ∃ μ', L_X6_keep_12 fu (nI c) μ = some (nI r, μ') ∧ (∀ b, b ≠ 16 → b ≠ 19 + r → b ≠ 23 → μ'.1 b = μ.1 b) ∧ (∀ j, j ≠ 1 → μ'.1 16 j = μ.1 16 j) ∧ μ'.1 16 1 = nI (r + 1) ∧ (∀ j, j < c → μ'.1 (19 + r) j = μ.1 (19 + r) j) ∧ (∀ j, c ≤ j → j < m → μ'.1 (19 + r) j = μ.1 6 j) ∧ μ'.1 23 r = nI m ∧ (∀ j, j ≠ r → μ'.1 23 j = μ.1 23 j) ∧ μ'.2 = μ.2 := by
  intro i
  induction i with
  | zero =>
    intro c fu μ hc hf h16 h54
    obtain ⟨fu, rfl⟩ : ∃ m, fu = m + 1 := ⟨fu - 1, by omega⟩
    have hcm : c = m := by omega
    subst hcm
    refine ⟨sI (sI μ 23 r (nI c)) 16 1 (nI (r + 1)), ?_, fun b b1 b2 b3 => by rw [sI_n _ _ _ b1, sI_n _ _ _ b3], fun j hj => by rw [sI_o _ _ hj, sI_n _ _ _ (by decide)], sI_u _ _ _ _, fun j hj => by rw [sI_n _ _ _ (by omega), sI_n _ _ _ (by omega)], fun j j1 j2 => by omega, by rw [sI_n _ _ _ (by decide), sI_u], fun j hj => by rw [sI_n _ _ _ (by decide), sI_o _ _ hj], rfl⟩
    show Bo_X6_keep_12 _ _ _ = _
    unfold Bo_X6_keep_12
    rw [gI_d μ 5 4, h54, if_pos (nI_le (by omega) (by omega)), gI_d μ 16 1, h16, inb_n hr (by decide), ck_t, nI_clamp (by omega), lt1, lt1, gI_d (sI μ 23 r (nI c)) 16 1, sI_n _ _ _ (by decide), h16, nI_1, gI_d, sI_u, nI_m1 (by omega), Nat.add_sub_cancel]
  | succ i ih =>
    intro c fu μ hc hf h16 h54
    obtain ⟨fu, rfl⟩ : ∃ m, fu = m + 1 := ⟨fu - 1, by omega⟩
    obtain ⟨μ', t1, t2, t3, t4, t5, t6, t7, t8, t9⟩ := ih (c + 1) fu (sI μ (19 + r) c (μ.1 6 c)) (by omega) (by omega) (by rw [sI_n _ _ _ (by omega)]; exact h16) (by rw [sI_n _ _ _ (by omega)]; exact h54)
    refine ⟨μ', ?_, fun b b1 b2 b3 => by rw [t2 b b1 b2 b3, sI_n _ _ _ b2], fun j hj => by rw [t3 j hj, sI_n _ _ _ (by omega)], t4, fun j hj => by rw [t5 j (by omega), sI_o _ _ (by omega)], fun j j1 j2 => ?_, t7, fun j hj => by rw [t8 j hj, sI_n _ _ _ (by omega)], t9⟩
    · show Bo_X6_keep_12 _ _ _ = _
      unfold Bo_X6_keep_12
      rw [gI_d μ 5 4, h54, if_neg (nI_ge (by omega) (by omega)), gI_d μ 16 1, h16, inb_n hr (by decide), ck_t, inb_n (show c < 160 by omega) (by decide), ck_t, ck_t, nI_clamp (by omega), nI_clamp (by omega), lt1, gI_d μ 6 c, nI_1]
      exact t1
    · by_cases q : j = c
      · subst q
        rw [t5 j (by omega), sI_u]
      · rw [t6 j (by omega) j2, sI_n _ _ _ (by omega)]
theorem by8_nar : ∀ s : Fin 256, vp_nar .byte (by8 s.1) = by8 s.1 := by decide +kernel
theorem tr_l {r n : Nat} (hr : r < 4) (hn : n ≤ 160) : ∀ (i c fu : Nat) (ν : gs_M), c + i = n → i < fu → ν.1 78 7 = nI r → ν.1 78 6 = nI n → (∀ j, j < n → ∃ s, 1 ≤ s ∧ s ≤ 255 ∧ ν.1 79 j = by8 s) → ∃ ν', L_X12_textOfRule_21 fu (nI c) ν = some (nI r, ν') ∧ (∀ b, b ≠ 78 → b ≠ 80 → b ≠ 81 → ν'.1 b = ν.1 b) ∧ (∀ j, j ≠ 6 → j ≠ 7 → ν'.1 78 j = ν.1 78 j) ∧ ν'.1 78 6 = 0 ∧ ν'.1 78 7 = nI (r + 1) ∧ (∀ j, j < 160 * r + c → ν'.1 80 j = ν.1 80 j) ∧ (∀ j, c ≤ j → j < n → ν'.1 80 (160 * r + j) = ν.1 79 j) ∧ ν'.1 81 r = nI n ∧ (∀ j, j ≠ r → ν'.1 81 j = ν.1 81 j) ∧ ν'.2 = ν.2 := by
  intro i
  induction i with
  | zero =>
    intro c fu ν hc hf h7 h6 hs
    obtain ⟨fu, rfl⟩ : ∃ m, fu = m + 1 := ⟨fu - 1, by omega⟩
    have hcm : c = n := by omega
    subst hcm
    refine ⟨sI (sI (sI ν 81 r (nI c)) 78 6 0) 78 7 (nI (r + 1)), ?_, fun b b1 b2 b3 => by rw [sI_n _ _ _ b1, sI_n _ _ _ b1, sI_n _ _ _ b3], fun j j1 j2 => by rw [sI_o _ _ j2, sI_o _ _ j1, sI_n _ _ _ (by decide)], by rw [sI_o _ _ (by decide), sI_u], sI_u _ _ _ _, fun j hj => by rw [sI_n _ _ _ (by decide), sI_n _ _ _ (by decide), sI_n _ _ _ (by decide)], fun j j1 j2 => by omega, by rw [sI_n _ _ _ (by decide), sI_n _ _ _ (by decide), sI_u], fun j hj => by rw [sI_n _ _ _ (by decide), sI_n _ _ _ (by decide), sI_o _ _ hj], rfl⟩
    show Bo_X12_textOfRule_21 _ _ _ = _
    unfold Bo_X12_textOfRule_21
    rw [gI_d ν 78 6, h6, if_pos (nI_le (by omega) (by omega)), gI_d ν 78 7, h7, inb_n hr (by decide), ck_t, nI_clamp (by omega), lt1, lt1, lt1, gI_d (sI (sI ν 81 r (nI c)) 78 6 0) 78 7, sI_o _ _ (by decide), sI_n _ _ _ (by decide), h7, nI_1, gI_d, sI_u, nI_m1 (by omega), Nat.add_sub_cancel]
  | succ i ih =>
    intro c fu ν hc hf h7 h6 hs
    obtain ⟨fu, rfl⟩ : ∃ m, fu = m + 1 := ⟨fu - 1, by omega⟩
    obtain ⟨ν', t1, t2, t3, t4, t5, t6, t7, t8, t9, t10⟩ := ih (c + 1) fu (sI ν 80 (160 * r + c) (ν.1 79 c)) (by omega) (by omega) (by rw [sI_n _ _ _ (by omega)]; exact h7) (by rw [sI_n _ _ _ (by omega)]; exact h6) (fun j hj => by rw [sI_n _ _ _ (by decide)]; exact hs j hj)
    refine ⟨ν', ?_, fun b b1 b2 b3 => by rw [t2 b b1 b2 b3, sI_n _ _ _ b2], fun j j1 j2 => by rw [t3 j j1 j2, sI_n _ _ _ (by omega)], t4, t5, fun j hj => by rw [t6 j (by omega), sI_o _ _ (by omega)], fun j j1 j2 => ?_, t8, fun j hj => by rw [t9 j hj, sI_n _ _ _ (by omega)], t10⟩
    · have e1 : (160 : Int32) * nI r + nI c = nI (160 * r + c) := by
        rw [show (160 : Int32) = nI 160 from rfl]
        apply ti_ext
        have a1 : (nI 160).toInt = 160 := by decide
        have a2 : (nI r).toInt = r := nI_toInt (by omega)
        have a3 : (nI c).toInt = c := nI_toInt (by omega)
        have a4 : (nI 160 * nI r).toInt = 160 * r := by rw [ti_mul (by rw [a1, a2]; omega) (by rw [a1, a2]; omega), a1, a2]
        rw [ti_add (by omega) (by omega), a4, a3, nI_toInt (by omega)]
        omega
      obtain ⟨s, s1, s2, s3⟩ := hs c (by omega)
      show Bo_X12_textOfRule_21 _ _ _ = _
      unfold Bo_X12_textOfRule_21
      rw [gI_d ν 78 6, h6, if_neg (nI_ge (by omega) (by omega)), gI_d ν 78 7, h7, e1, inb_n (show c < 160 by omega) (by decide), ck_t, inb_n (show 160 * r + c < 640 by omega) (by decide), ck_t, nI_clamp (by omega), nI_clamp (by omega), gI_d ν 79 c, s3, by8_nar ⟨s, by omega⟩, ← s3, lt1, nI_1]
      exact t1
    · by_cases q : j = c
      · subst q
        rw [t6 _ (by omega), sI_u]
      · rw [t7 j (by omega) j2, sI_n _ _ _ (by omega)]
theorem k_text_3 {i : Nat} : CALLS i (D_X11_text 3) (D_X12_text 3) := by
  intro μ ν h
  have g0 : RG ν (sI ν 78 0 0) := RG.s (by omega)
  have h0 : RT i μ (sI ν 78 0 0) := h.go (Nat.le_refl _) kC.refl g0.km
  obtain ⟨f, μ1, ν1, n, n1, n2, n3, n4, t1, t2, t3, t4, t5⟩ := rf_e h0.1
  obtain ⟨c0, hu, hh, hp, hq, hc, ho, hg, he, r, r1, r2, r3, r4⟩ := h
  have h := h0
  have c1 : D_X11_text 3 μ = B_X11_text_34 3 f μ1 := by
    unfold D_X11_text
    rw [wi_e, bd_s, show inN 3 0 3 = 1 by decide, if_neg z10, if_pos rfl, t1, bd_s]
  have m1 : D_X12_text 3 ν = D_X12_textOfRule (sI ν 78 0 0) := by
    unfold D_X12_text
    rw [lt1, if_pos rfl]
    cases D_X12_textOfRule (sI ν 78 0 0) <;> rfl
  have h7 : (sI ν 78 0 0).1 78 7 = nI r := (sI_o _ _ (by decide)).trans r3
  rw [c1, m1]
  unfold B_X11_text_34 D_X12_textOfRule
  rw [gI_d, h7]
  have hend : B_X11_text_49 (-1) μ1 = some (-1, μ1) := by
    unfold B_X11_text_49
    rw [if_pos rfl]
  by_cases q4 : r = 4
  · -- there are so many
    subst q4
    rw [if_pos (show nI 4 = 4 from rfl)]
    refine ⟨-1, μ1, sI ν 78 0 0, ?_, rfl, h0.go (by omega) t3.kc kM.refl, t3.e, g0.e⟩
    by_cases qf : f = -1
    · rw [if_pos qf]
      unfold D_X11_keepWhatWasRead D_X6_keep
      have e16 : μ1.1 16 1 = nI 4 := by rw [t3.1 16 (by decide) (by decide)]; exact r2
      rw [lt1, if_neg (by decide), if_neg (by decide), if_neg (by decide), gI_d μ1 16 1, e16, if_neg (show ¬ nI 4 < 4 by decide), bd_s, bd_s]
      exact hend
    · rw [if_neg qf]
      exact hend
  · have hr4 : r < 4 := by omega
    rw [if_neg (show ¬ nI r = 4 by rw [show (4 : Int32) = nI 4 from rfl, nI_eq (by omega) (by omega)]; exact q4), t2, bd_s]
    by_cases qf : f = -1
    · rw [if_pos qf, if_pos qf]
      obtain ⟨m, hm, hm54⟩ := t5 qf
      have e16 : μ1.1 16 1 = nI r := by rw [t3.1 16 (by decide) (by decide)]; exact r2
      obtain ⟨μ2, a1, a2, a3, a4, a5, a6, a7, a8, a9⟩ := kp_l hr4 hm m 0 4096 μ1 (by omega) (by omega) e16 hm54
      have e7 : ν1.1 78 7 = nI r := (t4.2.1 7 (by omega)).trans h7
      have e6 : ν1.1 78 6 = nI n := (t4.2.1 6 (by omega)).trans n3
      have e79 : ν1.1 79 = (sI ν 78 0 0).1 79 := t4.1 79 (by decide)
      obtain ⟨ν2, b1, b2, b3, b4, b5, b6, b7, b8, b9, b10⟩ := tr_l hr4 n1 n 0 4096 ν1 (by omega) (by omega) e7 e6 (fun j hj => by
        obtain ⟨s, s1, s2, -, s4⟩ := n4 j hj
        exact ⟨s, s1, s2, by rw [e79]; exact s4⟩)
      have hk : D_X11_keepWhatWasRead 3 μ1 = some (nI r, μ2) := by
        unfold D_X11_keepWhatWasRead D_X6_keep
        rw [lt1, if_neg (by decide), if_neg (by decide), if_neg (by decide), gI_d μ1 16 1, e16, if_pos (show nI r < 4 by rw [show (4 : Int32) = nI 4 from rfl]; exact nI_lt (by omega) (by omega))]
        have a1' : L_X6_keep_12 4096 0 μ1 = some (nI r, μ2) := a1
        rw [a1', bd_s]
      have hfin : B_X11_text_49 (nI r) μ2 = some (nI r, sI μ2 1 1 0) := by
        unfold B_X11_text_49
        rw [if_neg (nI_nm1 (by omega)), lt1]
      rw [hk, bd_s, hfin]
      refine ⟨nI r, sI μ2 1 1 0, ν2, rfl, b1, ?_, fun b hb => ⟨?_, ?_⟩, fun b hb => ⟨?_, ?_⟩⟩
      rotate_left
      · rw [sI_n _ _ _ (by omega), a2 b (by omega) (by omega) (by omega), t3.1 b (by omega) (by omega)]
      · show μ2.2 b = _
        rw [a9, t3.2]
      · rw [b2 b (by omega) (by omega) (by omega), t4.1 b (by omega), sI_n _ _ _ (by omega)]
      · rw [b10, t4.2.2]
        rfl
      -- the relation
      have C : ∀ b, b ≠ 1 → b ≠ 16 → b ≠ 19 + r → b ≠ 23 → b ≠ 5 → b ≠ 6 → (sI μ2 1 1 0).1 b = μ.1 b := fun b x1 x2 x3 x4 x5 x6 => by rw [sI_n _ _ _ x1, a2 b x2 x3 x4, t3.1 b x5 x6]
      have M : ∀ b, b ≠ 78 → b ≠ 80 → b ≠ 81 → ν2.1 b = ν.1 b := fun b x1 x2 x3 => by rw [b2 b x1 x2 x3, t4.1 b x1, sI_n _ _ _ x1]
      have M78 : ∀ j, 18 ≤ j → ν2.1 78 j = ν.1 78 j := fun j hj => by rw [b3 j (by omega) (by omega), t4.2.1 j (by omega), sI_o _ _ (by omega)]
      have L2 : (sI μ2 1 1 0).2 = μ.2 := by
        show μ2.2 = _
        rw [a9, t3.2]
      have L2m : ν2.2 = ν.2 := by rw [b10, t4.2.2]; rfl
      obtain ⟨st, u1, u2, u3⟩ := hu
      obtain ⟨sh, hh⟩ := hh
      obtain ⟨pl, hp⟩ := hp
      refine ⟨cT_0 (sI_u _ _ _ _) b4, ⟨st, u1.go (C 7 (by omega) (by omega) (by omega) (by omega) (by omega) (by omega)) (C 8 (by omega) (by omega) (by omega) (by omega) (by omega) (by omega)) (C 9 (by omega) (by omega) (by omega) (by omega) (by omega) (by omega)) (M78 24 (by omega)) (M 83 (by omega) (by omega) (by omega)), u2.go (by omega) (fun b _ _ => C b (by omega) (by omega) (by omega) (by omega) (by omega) (by omega)) (by rw [L2]) (fun j _ => by rw [M 89 (by omega) (by omega) (by omega)]) (M 83 (by omega) (by omega) (by omega)) (by rw [L2m]), u3.go (by omega) (fun b _ _ => C b (by omega) (by omega) (by omega) (by omega) (by omega) (by omega)) (by rw [L2]) (M 91 (by omega) (by omega) (by omega)) (M78 36 (by omega)) (M 83 (by omega) (by omega) (by omega)) (by rw [L2m])⟩, ⟨sh, hh.go (C 10 (by omega) (by omega) (by omega) (by omega) (by omega) (by omega)) (C 11 (by omega) (by omega) (by omega) (by omega) (by omega) (by omega)) (C 12 (by omega) (by omega) (by omega) (by omega) (by omega) (by omega)) (M78 25 (by omega)) (M 84 (by omega) (by omega) (by omega)) (M 86 (by omega) (by omega) (by omega))⟩, ⟨pl, hp.go (C 13 (by omega) (by omega) (by omega) (by omega) (by omega) (by omega)) (C 14 (by omega) (by omega) (by omega) (by omega) (by omega) (by omega)) (C 15 (by omega) (by omega) (by omega) (by omega) (by omega) (by omega)) (M78 26 (by omega)) (M 85 (by omega) (by omega) (by omega)) (M 87 (by omega) (by omega) (by omega))⟩, hq.go (C 25 (by omega) (by omega) (by omega) (by omega) (by omega) (by omega)) (fun j j1 j2 => M78 j (by omega)), hc.go (C 66 (by omega) (by omega) (by omega) (by omega) (by omega) (by omega)) (C 67 (by omega) (by omega) (by omega) (by omega) (by omega) (by omega)) (C 68 (by omega) (by omega) (by omega) (by omega) (by omega) (by omega)) (M78 41 (by omega)) (M 92 (by omega) (by omega) (by omega)) (M 93 (by omega) (by omega) (by omega)), ho.go (C 69 (by omega) (by omega) (by omega) (by omega) (by omega) (by omega)) (C 70 (by omega) (by omega) (by omega) (by omega) (by omega) (by omega)) (C 71 (by omega) (by omega) (by omega) (by omega) (by omega) (by omega)) (M78 48 (by omega)) (M 96 (by omega) (by omega) (by omega)) (M 97 (by omega) (by omega) (by omega)), hg.go (by rw [C 0 (by omega) (by omega) (by omega) (by omega) (by omega) (by omega)]) (C 72 (by omega) (by omega) (by omega) (by omega) (by omega) (by omega)) (M78 43 (by omega)) (M 94 (by omega) (by omega) (by omega)), he.go (C 73 (by omega) (by omega) (by omega) (by omega) (by omega) (by omega)) (C 74 (by omega) (by omega) (by omega) (by omega) (by omega) (by omega)) (M78 45 (by omega)) (M 95 (by omega) (by omega) (by omega)), r + 1, by omega, ?_, b5, fun e he' => ?_⟩
      · rw [sI_n _ _ _ (by decide)]; exact a4
      · by_cases qe : e = r
        · subst qe
          refine ⟨μ, μ1, n, m, n1, hm, n2, by rw [t1, qf], hm54, ?_, fun j hj => ?_, b8, fun j hj => ?_⟩
          · rw [sI_n _ _ _ (by decide)]; exact a7
          · rw [sI_n _ _ _ (by omega)]; exact a6 j (by omega) hj
          · obtain ⟨s, s1, s2, s3, s4⟩ := n4 j hj
            exact ⟨s, s1, s2, s3, by rw [b7 j (by omega) hj, e79]; exact s4⟩
        · have he2 : e < r := by omega
          refine (r4 e he2).go ?_ ?_ ?_ (fun j hj => ?_)
          · rw [sI_n _ _ _ (by decide), a8 e (by omega), t3.1 23 (by decide) (by decide)]
          · exact C (19 + e) (by omega) (by omega) (by omega) (by omega) (by omega) (by omega)
          · rw [b9 e (by omega), t4.1 81 (by decide), sI_n _ _ _ (by decide)]
          · rw [b6 _ (by omega), t4.1 80 (by decide), sI_n _ _ _ (by decide)]
    · rw [if_neg qf, if_neg qf]
      exact ⟨-1, μ1, ν1, hend, rfl, h0.go (by omega) t3.kc t4.km, t3.e, g0.e.trans t4.e⟩
theorem k_text {i : Nat} (x : Int32) : CALLS i (D_X11_text x) (D_X12_text x) := by
  rcases in3 x with ⟨hx, e⟩ | ⟨k, hk, rfl, e⟩
  · intro μ ν h
    have g0 : RG ν (sI ν 78 0 0) := RG.s (by omega)
    have x3 : ¬ x = 3 := fun q => by rw [q] at e; revert e; decide
    have e2 : inN x 0 2 = 0 := by
      rcases hx with hx | hx
      · unfold inN
        rw [if_pos hx]
      · rw [ti_le, show (nI 4).toInt = 4 by decide] at hx
        exact inN_z (Or.inr (by rw [show ((2 : Int32)).toInt = 2 by decide]; omega))
    refine ⟨-1, μ, sI ν 78 0 0, ?_, ?_, h.go (by omega) kC.refl g0.km, eC.refl, g0.e⟩
    · unfold D_X11_text
      rw [wi_e, bd_s, e, if_pos rfl]
    · unfold D_X12_text
      rw [lt1, if_neg x3, ii_e, bd_s, e2, if_pos rfl]
  · have : k = 0 ∨ k = 1 ∨ k = 2 ∨ k = 3 := by omega
    rcases this with rfl | rfl | rfl | rfl
    · exact k_text_0
    · exact k_text_1
    · exact k_text_2
    · exact k_text_3
