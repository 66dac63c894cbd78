/-! a vessel becomes another; keeps and putBack -/
theorem HF.cp {f f' w w' p : Nat → Int32} {k c o : Nat} (hk : k < 4) (h : HF f w p k c o) (hf : ∀ j, 1 ≤ j → j ≤ 13 → j ≠ 6 → j ≠ 7 → f' j = f j) (hw : ∀ j, j < 28 → w' j = w j) : HF f' w' p k c o := by
  unfold HF at *
  rw [hf 1 (by decide) (by decide) (by decide) (by decide), hf 2 (by decide) (by decide) (by decide) (by decide), hf 3 (by decide) (by decide) (by decide) (by decide), hf 4 (by decide) (by decide) (by decide) (by decide), hf 5 (by decide) (by decide) (by decide) (by decide), hf 8 (by decide) (by decide) (by decide) (by decide), hf 9 (by decide) (by decide) (by decide) (by decide), hf 10 (by decide) (by decide) (by decide) (by decide), hf 11 (by decide) (by decide) (by decide) (by decide), hf 12 (by decide) (by decide) (by decide) (by decide), hf 13 (by decide) (by decide) (by decide) (by decide)]
  rw [hw (7 * k) (by omega), hw (7 * k + 1) (by omega), hw (7 * k + 2) (by omega), hw (7 * k + 3) (by omega), hw (7 * k + 4) (by omega), hw (7 * k + 5) (by omega), hw (7 * k + 6) (by omega)]
  exact h
theorem hbu_loop {a0 a1 : Nat} (hne : a0 + 1 ≠ a1 + 1) : ∀ (m i fu : Nat) (μ : gs_M), i + m = 12 → ∃ μ' : gs_M, L_X1_become_2 (fu + m) a0 a1 (nI i) μ = L_X1_become_2 fu a0 a1 12 μ' ∧ (∀ j, i ≤ j → j < 12 → μ'.1 (a0 + 1) j = μ.1 (a1 + 1) j) ∧ (∀ j, j < i → μ'.1 (a0 + 1) j = μ.1 (a0 + 1) j) ∧ (∀ b, b ≠ a0 + 1 → μ'.1 b = μ.1 b) ∧ μ'.2 = μ.2 := by
  intro m
  induction m with
  | zero =>
    intro i fu μ hi
    obtain rfl : i = 12 := by omega
    exact ⟨μ, rfl, fun j h1 h2 => absurd h1 (by omega), fun _ _ => rfl, fun _ _ => rfl, rfl⟩
  | succ m ih =>
    intro i fu μ hi
    obtain ⟨μ', t1, t2, t3, t4, t5⟩ := ih (i + 1) fu (sI μ (a0 + 1) i (μ.1 (a1 + 1) i)) (by omega)
    refine ⟨μ', ?_, fun j h1 h2 => ?_, fun j hj => ?_, fun b hb => ?_, t5⟩
    · refine Eq.trans ?_ t1
      show Bo_X1_become_2 _ _ _ _ _ = _
      unfold Bo_X1_become_2
      rw [if_neg (show ¬ (12 : Int32) ≤ nI i from nI_ge (a := i) (b := 12) (by omega) (by omega))]
      simp only [inb_n (show i < 12 by omega) (by omega), ck_t, nI_clamp (show i < 2 ^ 31 by omega), lt1, gI_d, nI_1]
      rfl
    · by_cases q : j = i
      · subst q
        rw [t3 j (by omega), sI_s, pk_us]
      · rw [t2 j (by omega) h2, sI_n _ _ _ (Ne.symm hne)]
    · rw [t3 j (by omega), sI_s, pk_un (by omega)]
    · rw [t4 b hb, sI_n _ _ _ hb]
theorem hb_e {μ : gs_M} {a0 a1 : Nat} (hne : a1 + 2 ≤ a0 ∨ a0 + 2 ≤ a1) : ∃ μ' : gs_M, D_X1_become a0 a1 μ = some μ' ∧ (∀ j, 1 ≤ j → j ≤ 13 → j ≠ 6 → j ≠ 7 → μ'.1 a0 j = μ.1 a1 j) ∧ μ'.1 a0 6 = 0 ∧ μ'.1 a0 7 = 0 ∧ (∀ j, j < 12 → μ'.1 (a0 + 1) j = μ.1 (a1 + 1) j) ∧ (∀ b, b ≠ a0 → b ≠ a0 + 1 → μ'.1 b = μ.1 b) ∧ μ'.2 = μ.2 := by
  obtain ⟨μ1, t1, t2, t3, t4, t5⟩ := hbu_loop (a0 := a0) (a1 := a1) (by omega) 12 0 4084 μ (by omega)
  have n1 : a1 ≠ a0 := by omega
  have n2 : a0 + 1 ≠ a0 := by omega
  have h1 : μ1.1 a1 = μ.1 a1 := t4 a1 (by omega)
  have t1' : D_X1_become a0 a1 μ = L_X1_become_2 4084 a0 a1 12 μ1 := t1
  rw [t1', show (4084 : Nat) = 4083 + 1 from rfl]
  show ∃ μ', Bo_X1_become_2 _ _ _ _ _ = some μ' ∧ _
  unfold Bo_X1_become_2 D_X1_clearCounts
  rw [if_pos (by decide)]
  simp only [lt1, bd0_s, gI_d]
  refine ⟨_, rfl, fun j j1 j2 j6 j7 => ?_, ?_, ?_, fun j hj => ?_, fun b b1 b2 => ?_, ?_⟩
  · simp only [sI_s, sI_n _ _ _ n1, h1]
    obtain rfl | rfl | rfl | rfl | rfl | rfl | rfl | rfl | rfl | rfl | rfl : j = 1 ∨ j = 2 ∨ j = 3 ∨ j = 4 ∨ j = 5 ∨ j = 8 ∨ j = 9 ∨ j = 10 ∨ j = 11 ∨ j = 12 ∨ j = 13 := by omega
    all_goals simp [upd]
  · simp only [sI_s]
    simp [upd]
  · simp only [sI_s]
    simp [upd]
  · simp only [sI_n _ _ _ n2]
    exact t2 j (by omega) hj
  · simp only [sI_n _ _ _ b1]
    exact t4 b b2
  · exact t5
theorem vb_loop {v1 v2 n : Nat} (hd : v1 + 10 ≤ v2 ∨ v2 + 10 ≤ v1) (hn : n ≤ 4) : ∀ (m k fu : Nat) (μ : gs_M), k + m = n → m < fu → μ.1 v1 1 = nI n → ∃ μ' : gs_M, L_X10_become_42 fu v1 v2 (nI k) μ = some μ' ∧
    (∀ i, k ≤ i → i < n → (∀ j, 1 ≤ j → j ≤ 13 → j ≠ 6 → j ≠ 7 → μ'.1 (v1 + 2 + 2 * i) j = μ.1 (v2 + 2 + 2 * i) j) ∧ μ'.1 (v1 + 2 + 2 * i) 6 = 0 ∧ μ'.1 (v1 + 2 + 2 * i) 7 = 0 ∧ (∀ j, j < 12 → μ'.1 (v1 + 2 + 2 * i + 1) j = μ.1 (v2 + 2 + 2 * i + 1) j)) ∧ (∀ b, b < v1 + 2 + 2 * k ∨ v1 + 10 ≤ b → μ'.1 b = μ.1 b) ∧ μ'.2 = μ.2 := by
  intro m
  induction m with
  | zero =>
    intro k fu μ hk hf hs
    obtain ⟨fu, rfl⟩ : ∃ m, fu = m + 1 := ⟨fu - 1, by omega⟩
    refine ⟨μ, ?_, fun i h1 h2 => absurd h1 (by omega), fun _ _ => rfl, rfl⟩
    show Bo_X10_become_42 _ _ _ _ _ = _
    unfold Bo_X10_become_42
    rw [gI_d, hs, if_pos (nI_le (by omega) (by omega))]
  | succ m ih =>
    intro k fu μ hk hf hs
    obtain ⟨fu, rfl⟩ : ∃ m, fu = m + 1 := ⟨fu - 1, by omega⟩
    obtain ⟨μ1, s1, s2, s3, s4, s5, s6, s7⟩ := hb_e (μ := μ) (a0 := v1 + 2 + 2 * k) (a1 := v2 + 2 + 2 * k) (by omega)
    obtain ⟨μ', t1, t2, t3, t4⟩ := ih (k + 1) fu μ1 (by omega) (by omega) (by rw [s6 v1 (by omega) (by omega)]; exact hs)
    refine ⟨μ', ?_, fun i h1 h2 => ?_, fun b hb => ?_, t4.trans s7⟩
    · show Bo_X10_become_42 _ _ _ _ _ = _
      unfold Bo_X10_become_42
      rw [gI_d, hs, if_neg (nI_ge (show k < n by omega) (by omega))]
      simp only [inb_n (show k < 4 by omega) (by omega), ck_t, nI_clamp (show k < 2 ^ 31 by omega), s1, bd0_s, nI_1]
      exact t1
    · by_cases q : i = k
      · subst q
        rw [t3 (v1 + 2 + 2 * i) (by omega), t3 (v1 + 2 + 2 * i + 1) (by omega)]
        exact ⟨s2, s3, s4, s5⟩
      · obtain ⟨u1, u2, u3, u4⟩ := t2 i (by omega) h2
        rw [s6 (v2 + 2 + 2 * i) (by omega) (by omega)] at u1
        rw [s6 (v2 + 2 + 2 * i + 1) (by omega) (by omega)] at u4
        exact ⟨u1, u2, u3, u4⟩
    · rw [t3 b (by omega), s6 b (by omega) (by omega)]
theorem bec_e {μ : gs_M} {v1 v2 st n B : Nat} {w p : Nat → Int32} {d : Int64} (hd : v1 + 10 ≤ v2 ∨ v2 + 10 ≤ v1) (hV : VR μ v2 w p d st n B) : ∃ μ' : gs_M, D_X10_become v1 v2 μ = some μ' ∧ VR μ' v1 w p d st n B ∧ FW v1 μ μ' ∧ (∀ k, k < n → μ'.1 (v1 + 2 + 2 * k) 6 = 0 ∧ μ'.1 (v1 + 2 + 2 * k) 7 = 0) := by
  obtain ⟨hC, ht, hdy, hlo, hlo2, hdb, hdr⟩ := hV
  obtain ⟨n1, n4, hs, h76, hl, hH⟩ := hC
  have hne : v2 ≠ v1 := by omega
  obtain ⟨μ1, hμ1⟩ : ∃ μ1, μ1 = sL (sI (sI (sI (sI μ v1 1 (μ.1 v2 1)) v1 2 (μ.1 v2 2)) v1 3 (μ.1 v2 3)) v1 4 (μ.1 v2 4)) v1 5 (μ.2 v2 5) := ⟨_, rfl⟩
  have e1 : ∀ b, b ≠ v1 → μ1.1 b = μ.1 b := fun b h => by rw [hμ1, sL_I, sI_n _ _ _ h, sI_n _ _ _ h, sI_n _ _ _ h, sI_n _ _ _ h]
  have e2 : μ1.1 v1 = upd (upd (upd (upd (μ.1 v1) 1 (μ.1 v2 1)) 2 (μ.1 v2 2)) 3 (μ.1 v2 3)) 4 (μ.1 v2 4) := by rw [hμ1, sL_I, sI_s, sI_s, sI_s, sI_s]
  have e3 : μ1.2 v1 5 = μ.2 v2 5 := by rw [hμ1, sL_s, pk_uLs]
  have e4 : ∀ b, b ≠ v1 → μ1.2 b = μ.2 b := fun b h => by rw [hμ1, sL_n _ _ _ h, sI_L, sI_L, sI_L, sI_L]
  obtain ⟨μ2, t1, t2, t3, t4⟩ := vb_loop (v1 := v1) (v2 := v2) hd n4 n 0 4096 μ1 (by omega) (by omega) (by rw [e2, pk_un (by decide), pk_un (by decide), pk_un (by decide), pk_us]; exact hs)
  have hz : zb (μ.1 v2 4) = true := by rw [hlo]; rcases hlo2 with h | h <;> rw [h] <;> rfl
  refine ⟨μ2, ?_, ⟨⟨n1, n4, ?_, h76, hl, fun k hk => ?_⟩, ?_, ?_, ?_, hlo2, hdb, ?_⟩, ⟨fun b hb => by rw [t3 b (by omega), e1 b (by omega)], fun b hb => by rw [t4, e4 b hb]⟩, fun k hk => ⟨(t2 k (by omega) hk).2.1, (t2 k (by omega) hk).2.2.1⟩⟩
  · unfold D_X10_become
    simp only [lt1, gI_d, gL_d, sI_n _ _ _ hne, sI_L, hz, ck_t, ← hμ1]
    exact t1
  · rw [t3 v1 (by omega), e2, pk_un (by decide), pk_un (by decide), pk_un (by decide), pk_us]; exact hs
  · obtain ⟨⟨c, o, ho, hF, hU⟩, hb⟩ := hH k hk
    obtain ⟨u1, u2, u3, u4⟩ := t2 k (by omega) hk
    refine ⟨⟨c, o, ho, hF.cp (by omega) (fun j j1 j2 j6 j7 => ?_) (fun _ _ => rfl), hU.go (fun j hj => ?_) (fun _ _ => rfl)⟩, hb⟩
    · rw [u1 j j1 j2 j6 j7, e1 _ (by omega)]
    · rw [u4 j hj, e1 _ (by omega)]
  · rw [t3 v1 (by omega), e2, pk_un (by decide), pk_un (by decide), pk_us]; exact ht
  · rw [t3 v1 (by omega), e2, pk_un (by decide), pk_us]; exact hdy
  · rw [t3 v1 (by omega), e2, pk_us]; exact hlo
  · rw [t4, e3]; exact hdr
/-! the reference's copies -/
theorem cp_loop {a0 a1 : Nat} (hne : a0 ≠ a1) (h0 : ln a0 = 81) (h1 : ln a1 = 81) : ∀ (m i fu : Nat) (μ : gs_M), i + m = 81 → m < fu → ∃ μ' : gs_M, L_X12_copy_2 fu a0 a1 (nI i) μ = some μ' ∧ (∀ j, i ≤ j → j < 81 → μ'.1 a1 j = μ.1 a0 j) ∧ (∀ j, j < i → μ'.1 a1 j = μ.1 a1 j) ∧ (∀ b, b ≠ a1 → μ'.1 b = μ.1 b) ∧ μ'.2 = μ.2 := by
  intro m
  induction m with
  | zero =>
    intro i fu μ hi hf
    obtain ⟨fu, rfl⟩ : ∃ m, fu = m + 1 := ⟨fu - 1, by omega⟩
    obtain rfl : i = 81 := by omega
    refine ⟨μ, ?_, fun j h1 h2 => absurd h1 (by omega), fun _ _ => rfl, fun _ _ => rfl, rfl⟩
    show Bo_X12_copy_2 _ _ _ _ _ = _
    unfold Bo_X12_copy_2
    rw [h1, if_pos (by decide)]
  | succ m ih =>
    intro i fu μ hi hf
    obtain ⟨fu, rfl⟩ : ∃ m, fu = m + 1 := ⟨fu - 1, by omega⟩
    obtain ⟨μ', t1, t2, t3, t4, t5⟩ := ih (i + 1) fu (sI μ a1 i (μ.1 a0 i)) (by omega) (by omega)
    refine ⟨μ', ?_, fun j h1 h2 => ?_, fun j hj => ?_, fun b hb => ?_, t5⟩
    · refine Eq.trans ?_ t1
      show Bo_X12_copy_2 _ _ _ _ _ = _
      unfold Bo_X12_copy_2
      rw [h1, h0, if_neg (show ¬ (Int32.ofNat 81) ≤ nI i from nI_ge (a := i) (b := 81) (by omega) (by omega))]
      simp only [inb_n (show i < 81 by omega) (by omega), ck_t, nI_clamp (show i < 2 ^ 31 by omega), lt1, gI_d, nI_1]
    · by_cases q : j = i
      · subst q
        rw [t3 j (by omega), sI_s, pk_us]
      · rw [t2 j (by omega) h2, sI_n _ _ _ hne]
    · rw [t3 j (by omega), sI_s, pk_un (by omega)]
    · rw [t4 b hb, sI_n _ _ _ hb]
theorem cp_e {μ : gs_M} {a0 a1 : Nat} (hne : a0 ≠ a1) (h0 : ln a0 = 81) (h1 : ln a1 = 81) : ∃ μ' : gs_M, D_X12_copy a0 a1 μ = some μ' ∧ (∀ j, j < 81 → μ'.1 a1 j = μ.1 a0 j) ∧ (∀ b, b ≠ a1 → μ'.1 b = μ.1 b) ∧ μ'.2 = μ.2 := by
  obtain ⟨μ', t1, t2, t3, t4, t5⟩ := cp_loop hne h0 h1 81 0 4096 μ (by omega) (by omega)
  exact ⟨μ', t1, fun j hj => t2 j (by omega) hj, t4, t5⟩
/-- within a trial: what she was is kept -/
def TK (ν0 ν : gs_M) : Prop := (∀ b, b ≠ 78 → b ≠ 89 → b ≠ 90 → ν.1 b = ν0.1 b) ∧ (∀ j, j ≠ 37 → j ≠ 38 → ν.1 78 j = ν0.1 78 j) ∧ (∀ j, j < 81 → ν.1 90 j = ν0.1 89 j) ∧ ν.2 78 34 = ν0.2 78 33 ∧ (∀ b, b ≠ 78 → ν.2 b = ν0.2 b) ∧ (∀ j, j ≠ 33 → j ≠ 34 → ν.2 78 j = ν0.2 78 j)
/-- behind a trial -/
def BK (ν0 ν : gs_M) : Prop := (∀ b, b ≠ 78 → b ≠ 89 → b ≠ 90 → ν.1 b = ν0.1 b) ∧ (∀ j, j ≠ 37 → j ≠ 38 → ν.1 78 j = ν0.1 78 j) ∧ (∀ j, j < 81 → ν.1 89 j = ν0.1 89 j) ∧ (∀ b, b ≠ 78 → ν.2 b = ν0.2 b) ∧ (∀ j, j ≠ 34 → ν.2 78 j = ν0.2 78 j)
theorem BK.refl {ν : gs_M} : BK ν ν := ⟨fun _ _ _ _ => rfl, fun _ _ _ => rfl, fun _ _ => rfl, fun _ _ => rfl, fun _ _ => rfl⟩
theorem BK.trans {ν0 ν1 ν2 : gs_M} (h : BK ν0 ν1) (g : BK ν1 ν2) : BK ν0 ν2 := ⟨fun b h1 h2 h3 => (g.1 b h1 h2 h3).trans (h.1 b h1 h2 h3), fun b h1 h2 => (g.2.1 b h1 h2).trans (h.2.1 b h1 h2), fun j hj => (g.2.2.1 j hj).trans (h.2.2.1 j hj), fun j hj => (g.2.2.2.1 j hj).trans (h.2.2.2.1 j hj), fun j hj => (g.2.2.2.2 j hj).trans (h.2.2.2.2 j hj)⟩
theorem TK.r {ν0 ν ν' : gs_M} (h : TK ν0 ν) (g : FR ν ν') : TK ν0 ν' := by
  obtain ⟨h1, h2, h3, h4, h5, h6⟩ := h
  obtain ⟨g1, g2, g3, g4⟩ := g
  exact ⟨fun b b1 b2 b3 => (g1 b b1 b2).trans (h1 b b1 b2 b3), fun j j1 j2 => (g2 j j1 j2).trans (h2 j j1 j2), fun j hj => by rw [g1 90 (by decide) (by decide)]; exact h3 j hj, (g4 34 (by decide)).trans h4, fun b hb => (g3 b hb).trans (h5 b hb), fun j j1 j2 => (g4 j j1).trans (h6 j j1 j2)⟩
theorem VR.row {μ : gs_M} {v st n B : Nat} {w w' p : Nat → Int32} {d : Int64} (h : VR μ v w p d st n B) (hw : ∀ j, j < 81 → w' j = w j) : VR μ v w' p d st n B := by
  obtain ⟨hC, ht, hdy, hlo, hlo2, hdb, hdr⟩ := h
  refine ⟨hC.go rfl (fun _ _ _ => rfl) (fun j hj => hw j (by omega)) (hw 80 (by omega)), ?_, ?_, ?_, ?_, ?_, hdr⟩
  · rw [hw 77 (by omega)]; exact ht
  · rw [hw 78 (by omega)]; exact hdy
  · rw [hw 79 (by omega)]; exact hlo
  · rw [hw 79 (by omega)]; exact hlo2
  · rw [hw 78 (by omega)]; exact hdb
/-- a trial begins -/
theorem tr_e {μ ν : gs_M} {v st n B : Nat} (hd : v + 10 ≤ 26 ∨ 36 ≤ v) (hV : VR μ 26 (ν.1 89) (ν.1 83) (ν.2 78 33) st n B) : ∃ (μ' ν' : gs_M), D_X10_become v 26 μ = some μ' ∧ D_X12_keeps ν = some ν' ∧ VR μ' v (ν'.1 89) (ν'.1 83) (ν'.2 78 33) st n B ∧ FW v μ μ' ∧ TK ν ν' ∧ ν'.1 78 = ν.1 78 ∧ ν'.1 89 = ν.1 89 := by
  obtain ⟨μ', s1, s2, s3, -⟩ := bec_e (v1 := v) (v2 := 26) (by omega) hV
  obtain ⟨ν1, t1, t2, t3, t4⟩ := cp_e (μ := ν) (a0 := 89) (a1 := 90) (by decide) ln_89 ln_90
  refine ⟨μ', sL ν1 78 34 (ν.2 78 33), s1, ?_, ?_, s3, ⟨fun b _ _ h => t3 b h, fun j _ _ => ?_, fun j hj => t2 j hj, ?_, fun b hb => ?_, fun j j1 j2 => ?_⟩, t3 78 (by decide), t3 89 (by decide)⟩
  · unfold D_X12_keeps
    simp only [t1, bd0_s, lt1, gL_d, t4]
  · have e : (sL ν1 78 34 (ν.2 78 33)).2 78 33 = ν.2 78 33 := by rw [sL_s, pk_uLn (by decide), t4]
    rw [sL_I, t3 89 (by decide), t3 83 (by decide), e]
    exact s2
  · rw [sL_I, t3 78 (by decide)]
  · rw [sL_s, pk_uLs]
  · rw [sL_n _ _ _ hb, t4]
  · rw [sL_s, pk_uLn j2, t4]
/-- and ends -/
theorem pb_e {ν0 ν : gs_M} (h : TK ν0 ν) : ∃ ν' : gs_M, D_X12_putBack ν = some ν' ∧ BK ν0 ν' := by
  obtain ⟨ν1, t1, t2, t3, t4⟩ := cp_e (μ := ν) (a0 := 90) (a1 := 89) (by decide) ln_90 ln_89
  obtain ⟨h1, h2, h3, h4, h5, h6⟩ := h
  refine ⟨sL ν1 78 33 (ν.2 78 34), ?_, fun b b1 b2 b3 => ?_, fun j j1 j2 => ?_, fun j hj => ?_, fun b hb => ?_, fun j hj => ?_⟩
  · unfold D_X12_putBack
    simp only [t1, bd0_s, lt1, gL_d, t4]
  · rw [sL_I, t3 b b2]; exact h1 b b1 b2 b3
  · rw [sL_I, t3 78 (by decide)]; exact h2 j j1 j2
  · rw [sL_I, t2 j hj]; exact h3 j hj
  · rw [sL_n _ _ _ hb, t4]; exact h5 b hb
  · by_cases q : j = 33
    · subst q
      rw [sL_s, pk_uLs]; exact h4
    · rw [sL_s, pk_uLn q, t4]; exact h6 j q hj
