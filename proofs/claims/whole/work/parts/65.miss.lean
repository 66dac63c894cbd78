/-! miss, enough, refuse -/
/-- the heap of N cells of which d are dry enough -/
def hP (μ ν : gs_M) (N d : Nat) (b : Int32) : Prop := N ≤ 60 ∧ d ≤ N ∧ μ.1 73 1 = nI N ∧ ν.1 78 45 = nI N ∧ D_X0_noneAbove b μ = some (nI d, μ) ∧ D_X12_dry b ν = some (nI d, ν)
theorem hp_e {μ ν : gs_M} (h : cE μ ν) (b : Int32) : ∃ N d, hP μ ν N d b := by
  obtain ⟨N, n1, e1, e2, e3⟩ := h
  exact ⟨N, dN (ν.1 95) b N, n1, dN_b _ _ _, e1, e2, na_loop (f := ν.1 95) n1 e1 e3 N 0 4096 (by omega) (by omega), dr_loop (f := ν.1 95) n1 e2 (fun _ _ => rfl) N 0 4096 (by omega) (by omega)⟩
theorem mo_e {μ ν : gs_M} {N d t : Nat} {b : Int32} (h : hP μ ν N d b) (t1 : 1 ≤ t) (t2 : t ≤ 10) (t3 : t ≤ N) (hb : inN b 0 99 = 1) : D_X0_missParts (nI t) b μ = some (mP N d t, μ) ∧ D_X12_missOf (nI t) b ν = some (mP N d t, ν) := by
  obtain ⟨n1, n2, e1, e2, e3, e4⟩ := h
  have c1 : D_X0_choices (nI N) (nI t) μ = some (chC N t, μ) := cch_loop t2 t 0 4096 (by omega) (by omega)
  have c2 : D_X0_choices (nI d) (nI t) μ = some (chC d t, μ) := cch_loop t2 t 0 4096 (by omega) (by omega)
  have m1 : D_X12_choose (nI N) (nI t) ν = some (chM N t t, ν) := mch_loop t2 t 0 4096 (by omega) (by omega)
  have m2 : D_X12_choose (nI d) (nI t) ν = some (chM d t t, ν) := mch_loop t2 t 0 4096 (by omega) (by omega)
  obtain ⟨q1, q2, q3⟩ := ch_eq N (by omega) t (by omega) t3
  refine ⟨?_, ?_⟩
  · unfold D_X0_missParts
    rw [wi_e, bd_s, inN_y (by rw [nI_toInt (by omega)]; show (1 : Int) ≤ _; omega) (by rw [nI_toInt (by omega)]; show _ ≤ (10 : Int); omega), if_neg z10, gI_d, e1, if_neg (nI_nlt t3 (by omega)), wi_e, bd_s, hb, if_neg z10, gI_d, e1, c1, bd_s, if_pos q2, e3, bd_s, c2, bd_s, q3, ck_t]
    rfl
  · unfold D_X12_missOf
    rw [e4, bd_s]
    by_cases z : t ≤ d
    · obtain ⟨q4, -⟩ := ch_eq d (by omega) t (by omega) z
      rw [if_pos (nI_le z (by omega)), e4, bd_s, m2, bd_s, gI_d, e2, m1, bd_s, ← q1, q3, ck_t, ← q4]
      rfl
    · have q5 := ch_z d (by omega) t (by omega) (by omega)
      rw [if_neg (nI_ge (by omega) (by omega))]
      have : mP N d t = 0 := by
        unfold mP
        rw [q5, Int64.zero_mul, Int64.zero_div]
        rfl
      rw [this]
theorem ac_e {μ ν : gs_M} {N d : Nat} {b : Int32} (h : hP μ ν N d b) (x : Int32) : (∃ t, 1 ≤ t ∧ t ≤ 10 ∧ t ≤ N ∧ x = nI t ∧ inN b 0 99 = 1 ∧ D_X12_areCans x b ν = some (1, ν)) ∨ (D_X12_areCans x b ν = some (0, ν) ∧ D_X0_missParts x b μ = some (-1, μ)) := by
  obtain ⟨n1, n2, e1, e2, e3, e4⟩ := h
  unfold D_X12_areCans D_X0_missParts B_X12_areCans_31
  rw [lt1, gI_d, e2, ii_e, bd_s, ii_e, bd_s, wi_e, bd_s, gI_d, e1, wi_e, bd_s]
  have c10 : (10 : Int32).toInt = 10 := by decide
  have c1 : (1 : Int32).toInt = 1 := by decide
  have hm : (if nI N < 10 then nI N else 10).toInt = min (N : Int) 10 := by
    by_cases z : nI N < 10
    · rw [if_pos z, nI_toInt (by omega)]
      rw [ti_lt, nI_toInt (by omega), c10] at z
      omega
    · rw [if_neg z, c10]
      rw [ti_lt, nI_toInt (by omega), c10] at z
      omega
  rcases inN_k x (lo := 1) (hi := if nI N < 10 then nI N else 10) c1 hm with z | ⟨z, a0, b0⟩
  · refine Or.inr ⟨by rw [z, if_pos rfl], ?_⟩
    rcases inN_k x (lo := 1) (hi := 10) c1 c10 with y | ⟨y, a1, b1⟩
    · rw [y, if_pos rfl]
    · rw [y, if_neg z10, if_pos ?_]
      rw [ti_lt, nI_toInt (by omega)]
      apply Classical.byContradiction
      intro q
      rw [inN_y (by rw [c1]; omega) (by rw [hm]; omega)] at z
      exact absurd z z10
  · obtain ⟨t, t1, rfl⟩ := ti_nat (x := x) (m := 10) (by omega) (by omega)
    rw [nI_toInt (by omega)] at a0 b0
    rw [z, if_neg z10]
    rcases inN_k b (lo := 0) (hi := 99) (L := 0) (H := 99) (by decide) (by decide) with y | ⟨y, a1, b1⟩
    · refine Or.inr ⟨by rw [y, if_pos rfl], ?_⟩
      rw [inN_y (by rw [nI_toInt (by omega), c1]; omega) (by rw [nI_toInt (by omega), c10]; omega), if_neg z10, if_neg (nI_nlt (by omega) (by omega)), y, if_pos rfl]
    · exact Or.inl ⟨t, by omega, by omega, by omega, rfl, y, by rw [y, if_neg z10]⟩
theorem k_miss {i : Nat} (y0 y1 : Int32) : CALLS i (D_X11_miss y0 y1) (D_X12_miss y0 y1) := by
  intro μ ν0 h0
  obtain ⟨ν, hν, h, he⟩ := th_e h0
  have h' := h
  obtain ⟨h1, ⟨st, h2, h3, h4⟩, ⟨sh, h5⟩, ⟨pl, h6⟩, h7, h8, h9, h10, h11, h12⟩ := h'
  obtain ⟨N, d, hp⟩ := hp_e h11 y1
  unfold D_X11_miss D_X12_miss
  rw [lt1, ← hν]
  rcases ac_e hp y0 with ⟨t, t1, t2, t3, rfl, hb, q⟩ | ⟨q1, q2⟩
  · obtain ⟨m1, m2⟩ := mo_e hp t1 t2 t3 hb
    exact fin_e (r := mP N d t) h he (by rw [m1, bd_s]) (by rw [q, bd_s, if_neg z10, m2, bd_s])
  · exact fin_e (r := -1) h he (by rw [q2, bd_s]) (by rw [q1, bd_s, if_pos rfl])
theorem en_loop {μ ν : gs_M} {N d : Nat} {b p : Int32} (h : hP μ ν N d b) (hb : inN b 0 99 = 1) : ∀ (m k fu fu2 : Nat), k + m = 11 → 1 ≤ k → m < fu → m < fu2 → ∃ r, L_X11_enough_25 fu b p (nI k) μ = some (r, μ) ∧ L_X12_enough_30 fu2 b p (nI k) ν = some (r, ν) := by
  have stop : ∀ k fu fu2, 1 ≤ k → k ≤ 11 → (10 < k ∨ N < k) → L_X11_enough_25 (fu + 1) b p (nI k) μ = some (-1, μ) ∧ L_X12_enough_30 (fu2 + 1) b p (nI k) ν = some (-1, ν) := by
    intro k fu fu2 k1 k2 hk
    have h' := h
    obtain ⟨n1, n2, e1, e2, e3, e4⟩ := h'
    refine ⟨?_, ?_⟩
    · show Bo_X11_enough_25 _ _ _ _ _ = _
      unfold Bo_X11_enough_25
      by_cases z : 10 < k
      · rw [if_pos (show (10 : Int32) < nI k by rw [show (10 : Int32) = nI 10 from rfl]; exact nI_lt z (by omega))]
      · rw [if_neg (show ¬ (10 : Int32) < nI k by rw [show (10 : Int32) = nI 10 from rfl]; exact nI_nlt (by omega) (by omega)), gI_d, e1, if_pos (nI_lt (by omega) (by omega))]
    · show Bo_X12_enough_30 _ _ _ _ _ = _
      unfold Bo_X12_enough_30
      rcases ac_e h (nI k) with ⟨t, t1, t2, t3, e, hb, q⟩ | ⟨q1, q2⟩
      · have := (nI_eq (show k < 2 ^ 31 by omega) (show t < 2 ^ 31 by omega)).mp e
        exfalso; omega
      · rw [q1, bd_s, if_pos rfl]
  intro m
  induction m with
  | zero =>
    intro k fu fu2 hk k1 hf hf2
    obtain ⟨fu, rfl⟩ : ∃ m, fu = m + 1 := ⟨fu - 1, by omega⟩
    obtain ⟨fu2, rfl⟩ : ∃ m, fu2 = m + 1 := ⟨fu2 - 1, by omega⟩
    exact ⟨-1, stop k fu fu2 k1 (by omega) (by omega)⟩
  | succ m ih =>
    intro k fu fu2 hk k1 hf hf2
    obtain ⟨fu, rfl⟩ : ∃ m, fu = m + 1 := ⟨fu - 1, by omega⟩
    obtain ⟨fu2, rfl⟩ : ∃ m, fu2 = m + 1 := ⟨fu2 - 1, by omega⟩
    by_cases z : N < k
    · exact ⟨-1, stop k fu fu2 k1 (by omega) (Or.inr z)⟩
    · obtain ⟨m1, m2⟩ := mo_e h k1 (show k ≤ 10 by omega) (by omega) hb
      have h' := h
      obtain ⟨n1, n2, e1, e2, e3, e4⟩ := h'
      have q10 : ¬ (10 : Int32) < nI k := by rw [show (10 : Int32) = nI 10 from rfl]; exact nI_nlt (by omega) (by omega)
      have qa : D_X12_areCans (nI k) b ν = some (1, ν) := by
        rcases ac_e h (nI k) with ⟨t, t1, t2, t3, e, hb, q⟩ | ⟨q1, q2⟩
        · exact q
        · rw [m1] at q2
          have e : mP N d k = -1 := (Prod.mk.inj (Option.some.inj q2)).1
          have := mP_n N (by omega) d (by omega) n2 k (by omega) (by omega)
          rw [e] at this
          exact absurd this (by decide)
      by_cases z2 : p < mP N d k
      · obtain ⟨r, u1, u2⟩ := ih (k + 1) fu fu2 (by omega) (by omega) (by omega) (by omega)
        refine ⟨r, ?_, ?_⟩
        · show Bo_X11_enough_25 _ _ _ _ _ = _
          unfold Bo_X11_enough_25
          rw [if_neg q10, gI_d, e1, if_neg (nI_nlt (by omega) (by omega)), m1, bd_s, if_pos z2, nI_1]
          exact u1
        · show Bo_X12_enough_30 _ _ _ _ _ = _
          unfold Bo_X12_enough_30
          rw [qa, bd_s, if_neg z10, m2, bd_s, if_pos z2, nI_1]
          exact u2
      · refine ⟨nI k, ?_, ?_⟩
        · show Bo_X11_enough_25 _ _ _ _ _ = _
          unfold Bo_X11_enough_25
          rw [if_neg q10, gI_d, e1, if_neg (nI_nlt (by omega) (by omega)), m1, bd_s, if_neg z2]
        · show Bo_X12_enough_30 _ _ _ _ _ = _
          unfold Bo_X12_enough_30
          rw [qa, bd_s, if_neg z10, m2, bd_s, if_neg z2]
theorem k_enough {i : Nat} (y0 y1 : Int32) : CALLS i (D_X11_enough y0 y1) (D_X12_enough y0 y1) := by
  intro μ ν0 h0
  obtain ⟨ν, hν, h, he⟩ := th_e h0
  have h' := h
  obtain ⟨h1, ⟨st, h2, h3, h4⟩, ⟨sh, h5⟩, ⟨pl, h6⟩, h7, h8, h9, h10, h11, h12⟩ := h'
  obtain ⟨N, d, hp⟩ := hp_e h11 y0
  unfold D_X11_enough D_X12_enough
  simp only [lt1, ← hν, wi_e, ii_e, bd_s]
  rcases inN_k y0 (lo := 0) (hi := 99) (L := 0) (H := 99) (by decide) (by decide) with z0 | ⟨z0, a0, b0⟩
  · exact fin_e (r := -1) h he (by rw [z0, if_pos rfl]) (by rw [z0, if_pos rfl])
  rcases inN_k y1 (lo := 0) (hi := 1000000) (L := 0) (H := 1000000) (by decide) (by decide) with z1 | ⟨z1, a1, b1⟩
  · exact fin_e (r := -1) h he (by rw [z0, if_neg z10, z1, if_pos rfl]) (by rw [z0, if_neg z10, z1, if_pos rfl])
  rw [z0, if_neg z10, z1, if_neg z10, if_neg z10, if_neg z10]
  obtain ⟨r, u1, u2⟩ := en_loop (p := y1) hp z0 10 1 4096 4096 (by omega) (by omega) (by omega) (by omega)
  exact fin_e (r := r) h he u1 u2
theorem k_refuse {i : Nat} (y0 y1 y2 y3 : Int32) : CALLS i (D_X11_refuse y0 y1 y2 y3) (D_X12_refuse y0 y1 y2 y3) := by
  intro μ ν0 h0
  obtain ⟨ν, hν, h, he⟩ := th_e h0
  have h' := h
  obtain ⟨h1, ⟨st, h2, h3, h4⟩, ⟨sh, h5⟩, ⟨pl, h6⟩, h7, h8, h9, h10, h11, h12⟩ := h'
  obtain ⟨N, d, hp⟩ := hp_e h11 y1
  unfold D_X11_refuse D_X12_refuse B_X11_refuse_65 B_X11_refuse_93 B_X12_refuse_76
  simp only [lt1, ← hν, wi_e, ii_e, bd_s]
  rcases ac_e hp y0 with ⟨t, t1, t2, t3, rfl, hb, q⟩ | ⟨q1, q2⟩
  · obtain ⟨m1, m2⟩ := mo_e hp t1 t2 t3 hb
    obtain ⟨n1, n2, e1, e2, e3, e4⟩ := hp
    have hne : ¬ mP N d t = -1 := fun e => by
      have := mP_n N (by omega) d (by omega) n2 t (by omega) t3
      rw [e] at this
      exact absurd this (by decide)
    rw [m1, bd_s, if_neg hne, q, bd_s, if_neg z10]
    rcases inN_k y2 (lo := 0) (hi := 99999) (L := 0) (H := 99999) (by decide) (by decide) with z0 | ⟨z0, a0, b0⟩
    · exact fin_e (r := -1) h he (by rw [z0, if_pos rfl]) (by rw [z0, if_pos rfl])
    rcases inN_k y3 (lo := 0) (hi := 99999) (L := 0) (H := 99999) (by decide) (by decide) with z1 | ⟨z1, a1, b1⟩
    · exact fin_e (r := -1) h he (by rw [z0, if_neg z10, z1, if_pos rfl]) (by rw [z0, if_neg z10, z1, if_pos rfl])
    rw [z0, if_neg z10, z1, if_neg z10, if_neg z10, if_neg z10, e3, bd_s, e4, bd_s, gI_d, e1, gI_d, e2]
    by_cases w : nI N ≤ nI d
    · exact fin_e (r := 0) h he (by rw [if_pos w]; rfl) (by rw [if_pos w])
    · rw [if_neg w, if_neg w, m2, bd_s, Int64.mul_comm 1000000]
      by_cases w2 : (lg_cmp ((Int32.toInt64 (mP N d t)) * (Int32.toInt64 y2)) ((Int32.toInt64 y3) * (1000000 : Int64))) ≤ 0
      · exact fin_e (r := 0) h he (by rw [if_pos w2]; rfl) (by rw [if_pos w2])
      · exact fin_e (r := 1) h he (by rw [if_neg w2]; rfl) (by rw [if_neg w2])
  · exact fin_e (r := -1) h he (by rw [q2, bd_s, if_pos rfl]) (by rw [q1, bd_s, if_pos rfl])
