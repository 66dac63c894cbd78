/-! rules in both: where they stand, what they make -/
def RMR (ν ν' : gs_M) : Prop := (∀ b, b ≠ 78 → ν'.1 b = ν.1 b) ∧ (∀ j, j ≠ 10 → j ≠ 11 → j ≠ 12 → ν'.1 78 j = ν.1 78 j) ∧ ν'.2 = ν.2
theorem RMR.refl {ν : gs_M} : RMR ν ν := ⟨fun _ _ => rfl, fun _ _ _ _ => rfl, rfl⟩
theorem RMR.trans {μ0 μ1 μ2 : gs_M} (h : RMR μ0 μ1) (g : RMR μ1 μ2) : RMR μ0 μ2 := ⟨fun b hb => (g.1 b hb).trans (h.1 b hb), fun j j1 j2 j3 => (g.2.1 j j1 j2 j3).trans (h.2.1 j j1 j2 j3), g.2.2.trans h.2.2⟩
theorem RM.r {ν ν' : gs_M} (h : RM ν ν') : RMR ν ν' := ⟨h.1, fun j j1 j2 _ => h.2.1 j j1 j2, h.2.2⟩
theorem RMR.s {j : Nat} {ν : gs_M} {v : Int32} (h : j = 10 ∨ j = 11 ∨ j = 12) : RMR ν (sI ν 78 j v) :=
  ⟨fun b hb => sI_n _ _ _ hb, fun i i1 i2 i3 => sI_o _ _ (by omega), rfl⟩
/-- both stand at p, sound, the class with m entries of code, k to spare, d deep -/
def RY (B b0 n d k m p : Nat) (μ ν : gs_M) : Prop := TX B b0 n μ ν ∧ AT 5 n p μ ν ∧ μ.1 5 2 = -1 ∧ ν.1 78 11 = -1 ∧ μ.1 5 4 = nI m ∧ m + k ≤ p ∧ ν.1 78 12 = nI d
/-- both are at fault, at the same place -/
def FLT (n : Nat) (μ ν : gs_M) : Prop := ∃ q, UN q n μ ∧ ν.1 78 11 = nI q
def Lm (ν : gs_M) (k : Nat) : Int32 := ν.1 82 (cA 4 k).toNatClampNeg
def LB (ν : gs_M) : Prop := ∀ k, k < 6 → BD (Lm ν k)
/-- the code from m to m' makes v -/
def OKc (c : Int32) : Prop := c ≠ -63 ∧ c ≠ -121
theorem okc_n {N : Nat} (h : N ≤ 9999) : OKc (nI N) := by
  have e : (nI N).toInt = N := nI_toInt (by omega)
  have e1 : ((-63 : Int32)).toInt = -63 := by decide
  have e2 : ((-121 : Int32)).toInt = -121 := by decide
  exact ⟨fun q => by rw [q, e1] at e; omega, fun q => by rw [q, e2] at e; omega⟩
def EV (ν μ : gs_M) (m m' : Nat) (v : Int32) : Prop := LB ν → BD v ∧ (∀ s, runN (Lm ν) (μ.1 6) m (m' - m) s = v :: s) ∧ ∀ j, m ≤ j → j < m' → OKc (μ.1 6 j)
theorem TX.rm {B b0 n : Nat} {μ ν μ' ν' : gs_M} (h : TX B b0 n μ ν) (hc : RF μ μ') (hm : RMR ν ν') : TX B b0 n μ' ν' := by
  have hB : B ≠ 78 := by have := h.2.2.2.2.2.1; omega
  exact h.go (hc.1 _ (by decide) (by decide)) (hc.1 _ (by decide) (by decide)) (hm.2.1 _ (by decide) (by decide) (by decide)) (hm.2.1 _ (by decide) (by decide) (by decide)) (hm.2.1 _ (by decide) (by decide) (by decide)) (hm.1 _ hB)
/-- a fault where both stand -/
theorem RY.flt {B b0 n d k m p : Nat} {μ ν : gs_M} (h : RY B b0 n d k m p μ ν) : D_X4_failAt 5 (nI p) μ = some (sI μ 5 2 (nI p)) ∧ D_X12_fails ν = some (0, sI ν 78 11 (nI p)) ∧ FLT n (sI μ 5 2 (nI p)) (sI ν 78 11 (nI p)) := by
  obtain ⟨T, A, s1, s2, hm, hmp, hd⟩ := h
  have n160 := T.1
  have pn := A.1
  obtain ⟨F1, F2, -⟩ := fx_e T.1 A s1 s2
  refine ⟨F1, F2, p, ⟨by omega, sI_u _ _ _ _, T.tc.go RF.s5, ⟨p, pn, (sI_o _ _ (by decide)).trans A.2.1⟩, m, by omega, (sI_o _ _ (by decide)).trans hm⟩, sI_u _ _ _ _⟩
theorem RY.mv {B b0 n d k m p p' k' : Nat} {μ ν : gs_M} (h : RY B b0 n d k m p μ ν) (hp : p' ≤ n) (hk : m + k' ≤ p') : RY B b0 n d k' m p' (sI μ 5 1 (nI p')) (sI ν 78 10 (nI p')) := by
  obtain ⟨T, A, s1, s2, hm, hmp, hd⟩ := h
  exact ⟨T.rm RF.s5 (RMR.s (Or.inl rfl)), ⟨hp, sI_u _ _ _ _, sI_u _ _ _ _⟩, (sI_o _ _ (by decide)).trans s1, (sI_o _ _ (by decide)).trans s2, (sI_o _ _ (by decide)).trans hm, hk, (sI_o _ _ (by decide)).trans hd⟩
/-- the next sign, in both -/
theorem RY.nx {B b0 n d k m p : Nat} {μ ν : gs_M} (h : RY B b0 n d k m p μ ν) : ∃ (g : Int32) (p' : Nat) (μ' ν' : gs_M), p ≤ p' ∧ D_X4_next 5 μ = some (g, μ') ∧ D_X12_look ν = some (g, ν') ∧ RY B b0 n d k m p' μ' ν' ∧ RF μ μ' ∧ RMR ν ν' ∧ μ'.1 6 = μ.1 6 ∧ D_X4_next 5 μ' = some (g, μ') ∧ D_X12_look ν' = some (g, ν') ∧ ((p' = n ∧ g = -1) ∨ (p' < n ∧ ∃ s, 1 ≤ s ∧ s ≤ 255 ∧ s ≠ 32 ∧ g = nI s ∧ μ'.1 2 p' = nI s ∧ ν'.1 B (b0 + p') = by8 s)) := by
  obtain ⟨T, A, s1, s2, hm, hmp, hd⟩ := h
  obtain ⟨g, p', μ', ν', t0, t1, t2, t3, t4, t5, t6, t7, t8⟩ := nx_e (Or.inr rfl) T A
  have T' := T.r (Or.inr rfl) t4 t5
  have hB : B ≠ 78 := by have := T.2.2.2.2.2.1; omega
  have t8' : (p' = n ∧ g = -1) ∨ (p' < n ∧ ∃ s, 1 ≤ s ∧ s ≤ 255 ∧ s ≠ 32 ∧ g = nI s ∧ μ'.1 2 p' = nI s ∧ ν'.1 B (b0 + p') = by8 s) := by
    rw [t4.1 2 (by decide), t5.1 B hB]
    exact t8
  have n160 := T.1
  refine ⟨g, p', μ', ν', t0, t1, t2, ⟨T', t3, t6.trans s1, t7.trans s2, (t4.2.1 4 (by decide) (by decide)).trans hm, by omega, (t5.2.1 12 (by decide) (by decide)).trans hd⟩, t4.rf, t5.r, t4.1 6 (by decide), ?_, ?_, t8'⟩
  · exact nx_id T' t3.2.1 (t8'.imp id fun ⟨q1, s, z1, z2, z3, z4, z5, _⟩ => ⟨q1, s, z1, z2, z3, z4, z5⟩)
  · show Bo_X12_look_0 _ _ = _
    unfold Bo_X12_look_0 B_X12_look_43
    rcases t8' with ⟨e1, e2⟩ | ⟨hp, s, z1, z2, z3, z4, z5, z6⟩
    · have q : gI ν' 78 9 ≤ gI ν' 78 10 := by rw [gI_d, gI_d, T'.2.2.2.2.1, t3.2.2]; exact nI_le (by omega) (by omega)
      rw [if_pos q, if_pos q, e2]
    · have q : ¬ gI ν' 78 9 ≤ gI ν' 78 10 := by rw [gI_d, gI_d, T'.2.2.2.2.1, t3.2.2]; exact nI_ge (by omega) (by omega)
      rw [if_neg q, if_neg q, T'.ck hp t3.2.2, T'.ck hp t3.2.2, T'.at hp t3.2.2, z6, if_neg (fun e => z3 ((by8_32 z2).mp e)), by8_a z2, z4]
/-- one more entry of code -/
theorem RY.put {B b0 n d k m p : Nat} {μ ν : gs_M} (h : RY B b0 n d (k + 1) m p μ ν) (x : Int32) : D_X5_put x μ = some (sI (sI μ 6 m x) 5 4 (nI (m + 1))) ∧ RY B b0 n d k (m + 1) p (sI (sI μ 6 m x) 5 4 (nI (m + 1))) ν ∧ RF μ (sI (sI μ 6 m x) 5 4 (nI (m + 1))) ∧ (sI (sI μ 6 m x) 5 4 (nI (m + 1))).1 6 m = x ∧ (∀ j, j ≠ m → (sI (sI μ 6 m x) 5 4 (nI (m + 1))).1 6 j = μ.1 6 j) := by
  obtain ⟨T, A, s1, s2, hm, hmp, hd⟩ := h
  have n160 := T.1
  have pn := A.1
  have hf : RF μ (sI (sI μ 6 m x) 5 4 (nI (m + 1))) := RF.s6.trans RF.s5
  refine ⟨by rw [pt_e (by omega) hm, if_pos (by omega)], ⟨T.rm hf RMR.refl, ⟨A.1, ?_, A.2.2⟩, ?_, s2, sI_u _ _ _ _, by omega, hd⟩, hf, ?_, ?_⟩
  · rw [sI_o _ _ (by decide), sI_n _ _ _ (by decide)]; exact A.2.1
  · rw [sI_o _ _ (by decide), sI_n _ _ _ (by decide)]; exact s1
  · rw [sI_n _ _ _ (by decide), sI_u]
  · intro j hj
    rw [sI_n _ _ _ (by decide), sI_o _ _ hj]
/-! letters in the model -/
theorem am_s {fu j : Nat} {g : Int32} {ν : gs_M} (hj : j < 6) : L_X12_isAmong_2 (fu + 1) 106 g (nI j) ν = if cA 4 j = g then some (1, ν) else L_X12_isAmong_2 fu 106 g (nI (j + 1)) ν := by
  show Bo_X12_isAmong_2 _ _ _ _ _ = _
  unfold Bo_X12_isAmong_2
  have e : gs_sl.getD (106 - 105) 0 = 6 := rfl
  have e2 : cS (106 - 105) j = cA 4 j := by
    have : j = 0 ∨ j = 1 ∨ j = 2 ∨ j = 3 ∨ j = 4 ∨ j = 5 := by omega
    rcases this with rfl | rfl | rfl | rfl | rfl | rfl <;> rfl
  rw [e, if_neg (nI_ge (by omega) (by omega)), inb_n hj (by omega), ck_t, nI_clamp (by omega), nI_1, e2]
theorem am_6 {fu : Nat} {g : Int32} {ν : gs_M} : L_X12_isAmong_2 (fu + 1) 106 g (nI 6) ν = some (0, ν) := by
  show Bo_X12_isAmong_2 _ _ _ _ _ = _
  unfold Bo_X12_isAmong_2
  rw [if_pos (by decide)]
theorem am_e (g : Int32) (ν : gs_M) : D_X12_isAmong 106 g ν = some (if ltr g = -1 then 0 else 1, ν) := by
  show L_X12_isAmong_2 (4089 + 1 + 1 + 1 + 1 + 1 + 1 + 1) 106 g (nI 0) ν = _
  rw [am_s (by decide), am_s (by decide), am_s (by decide), am_s (by decide), am_s (by decide), am_s (by decide), am_6]
  rw [show cA 4 0 = 108 from rfl, show cA 4 (0 + 1) = 100 from rfl, show cA 4 (0 + 1 + 1) = 115 from rfl, show cA 4 (0 + 1 + 1 + 1) = 119 from rfl, show cA 4 (0 + 1 + 1 + 1 + 1) = 98 from rfl, show cA 4 (0 + 1 + 1 + 1 + 1 + 1) = 109 from rfl]
  unfold ltr
  repeat' split
  all_goals first | rfl | (exfalso; revert ‹_ = (-1 : Int32)›; decide) | (exfalso; simp_all)
