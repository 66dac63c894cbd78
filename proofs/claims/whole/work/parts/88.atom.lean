/-! a sign that must come -/
theorem FLT.n {n : Nat} {μ ν : gs_M} (h : FLT n μ ν) : ¬ ν.1 78 11 = -1 := by
  obtain ⟨q, h1, h2⟩ := h
  rw [h2]
  exact nI_nm1 (by have := h1.1; omega)
theorem tk_f {n : Nat} {μ ν : gs_M} (h : FLT n μ ν) (x : Int32) : D_X4_expect 5 x μ = some μ ∧ D_X12_takes x ν = some (0, ν) := by
  have hn := h.n
  obtain ⟨q, h1, h2⟩ := h
  refine ⟨un_expect h1 x, ?_⟩
  unfold D_X12_takes B_X12_takes_16 D_X12_fails
  rw [gI_d ν 78 11, if_neg hn, if_neg hn, bd_s, zb_0, ck_t]
theorem tk_e {B b0 n d k m p : Nat} {μ ν : gs_M} {x : Int32} (hx : x ≠ -1) (h : RY B b0 n d k m p μ ν) : ∃ (r : Int32) (μ' ν' : gs_M), D_X4_expect 5 x μ = some μ' ∧ D_X12_takes x ν = some (r, ν') ∧ RF μ μ' ∧ RMR ν ν' ∧ μ'.1 6 = μ.1 6 ∧ ((r = 0 ∧ FLT n μ' ν') ∨ (r = 1 ∧ ∃ p', p < p' ∧ RY B b0 n d (k + 1) m p' μ' ν')) := by
  obtain ⟨g, p', μ1, ν1, t0, t1, t2, t3, t4, t5, t6, t7, t8, t9⟩ := h.nx
  obtain ⟨F1, F2, F3⟩ := t3.flt
  have s1 := h.2.2.1
  have s2 := h.2.2.2.1
  have A1 := t3.2.1
  have cA1 : D_X4_accept 5 x μ = if g = x then some (1, sI μ1 5 1 (nI (p' + 1))) else some (0, μ1) := by
    unfold D_X4_accept
    rw [gI_d μ 5 2, if_pos s1, t1, bd_s, lt1, gI_d μ1 5 1, A1.2.1, nI_1]
  have mT : D_X12_takes x ν = if g = x then some (1, sI ν1 78 10 (nI (p' + 1))) else some (0, sI ν1 78 11 (nI p')) := by
    unfold D_X12_takes B_X12_takes_16
    rw [gI_d ν 78 11, if_pos s2, t2, bd_s, lt1, gI_d ν1 78 10, A1.2.2, nI_1, F2, bd_s, zb_0, ck_t]
  unfold D_X4_expect
  rw [cA1, mT]
  by_cases q : g = x
  · rw [if_pos q, if_pos q, bd_s, if_neg z10]
    have hp : p' < n := by
      rcases t9 with ⟨-, e⟩ | ⟨e, -⟩
      · exact absurd (q.symm.trans e) hx
      · exact e
    have hmp := t3.2.2.2.2.2.1
    exact ⟨1, _, _, rfl, rfl, t4.trans RF.s5, t5.trans (RMR.s (Or.inl rfl)), by rw [sI_n _ _ _ (by decide)]; exact t6, Or.inr ⟨rfl, p' + 1, by omega, t3.mv (by omega) (by omega)⟩⟩
  · rw [if_neg q, if_neg q, bd_s, if_pos rfl, gI_d μ1 5 1, A1.2.1, F1, bd0_s]
    exact ⟨0, _, _, rfl, rfl, t4.trans RF.s5, t5.trans (RMR.s (Or.inr (Or.inl rfl))), by rw [sI_n _ _ _ (by decide)]; exact t6, Or.inl ⟨rfl, F3⟩⟩
/-- what makes a value, in both -/
def VK (B b0 n d : Nat) (X : gs_M → Option gs_M) (Y : gs_M → Option (Int32 × gs_M)) : Prop :=
  ∀ (k m p : Nat) (μ ν : gs_M), RY B b0 n d k m p μ ν → ∃ (v : Int32) (μ' ν' : gs_M), X μ = some μ' ∧ Y ν = some (v, ν') ∧ RF μ μ' ∧ RMR ν ν' ∧ (FLT n μ' ν' ∨ ∃ m' p', m ≤ m' ∧ p < p' ∧ RY B b0 n d k m' p' μ' ν' ∧ (∀ j, j < m → μ'.1 6 j = μ.1 6 j) ∧ EV ν μ' m m' v)
theorem ltr_i {g : Int32} {i : Nat} (hi : i < 6) (h : ltr g = nI i) : g = cA 4 i := by
  have : i = 0 ∨ i = 1 ∨ i = 2 ∨ i = 3 ∨ i = 4 ∨ i = 5 := by omega
  unfold ltr at h
  rcases this with rfl | rfl | rfl | rfl | rfl | rfl
  all_goals
    repeat' split at h
    all_goals first | (rename_i e; exact e.symm) | (exfalso; revert h; decide)
theorem EV.one {ν μ : gs_M} {m : Nat} {v : Int32} (h : LB ν → BD v ∧ (∀ s, run1 (Lm ν) (μ.1 6 m) s = v :: s) ∧ OKc (μ.1 6 m)) : EV ν μ m (m + 1) v := by
  intro hL
  obtain ⟨h1, h2, h3⟩ := h hL
  refine ⟨h1, fun s => ?_, fun j j1 j2 => ?_⟩
  · rw [show m + 1 - m = 1 by omega]
    exact h2 s
  · rw [show j = m by omega]
    exact h3
