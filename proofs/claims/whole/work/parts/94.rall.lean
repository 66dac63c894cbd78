/-! a whole rule, in both -/
theorem FLT.x {n : Nat} {μ ν : gs_M} (h : FLT n μ ν) : FX 5 n μ ν := by
  obtain ⟨q, ⟨h1, h2, h3, ⟨p, p1, p2⟩, h4⟩, h5⟩ := h
  exact ⟨q, p, h1, p1, h2, h5, p2⟩
theorem RM.c {ν ν' : gs_M} (h : RM ν ν') : RMC ν ν' := ⟨h.1, fun j j1 j2 _ _ _ => h.2.1 j j1 j2, h.2.2⟩
theorem ra_0 {fu c : Nat} {μ : gs_M} : L_X5_readAll_13 (fu + 1) 0 (nI c) μ = D_X4_finish 5 μ := by
  show Bo_X5_readAll_13 _ _ _ _ = _
  unfold Bo_X5_readAll_13 B_X5_readAll_41
  have e : bd (D_X4_finish 5 μ) (fun v3 u2 => some (v3, u2)) = D_X4_finish 5 μ := by
    cases D_X4_finish 5 μ <;> rfl
  rw [if_pos (show (0 : Int32) = 0 from rfl), ite_self, e]
theorem GF.end {ν μ : gs_M} {m : Nat} (h : GF ν μ m) : LB ν → woN (Lm ν) (μ.1 6) m 0 1 [] = ν.1 78 14 := by
  intro hL
  rcases h hL with ⟨-, a2⟩ | ⟨-, a2, a3⟩
  · exact a2 (μ.1 6) 0 (fun _ _ => rfl)
  · rw [a2]
    exact a3 (μ.1 6) 0 (fun _ _ => rfl)
theorem ga_l {B b0 n : Nat} : ∀ (i c fu fu2 : Nat) (μ ν : gs_M), TX B b0 n μ ν → ν.1 78 13 = 121 → i + 1 ≤ fu → i + 1 ≤ fu2 → (FLT n μ ν ∨ ∃ m p, n - p ≤ i ∧ c < p ∧ RY B b0 n 0 0 m p μ ν ∧ GF ν μ m) → ∃ (f : Int32) (μ' ν' : gs_M), bd (D_X4_accept 5 59 μ) (fun v7 u6 => L_X5_readAll_13 fu v7 (nI (c + 1)) u6) = some (f, μ') ∧ L_X12_goThrough_32 fu2 ν = some ν' ∧ RF μ μ' ∧ RMC ν ν' ∧ ν'.1 78 11 = f ∧ (f = -1 ∨ ∃ q, q ≤ 160 ∧ f = nI q) ∧ (f = -1 → ∃ m, m ≤ 160 ∧ μ'.1 5 4 = nI m ∧ (LB ν → woN (Lm ν) (μ'.1 6) m 0 1 [] = ν'.1 78 14)) := by
  intro i
  induction i with
  | zero =>
    intro c fu fu2 μ ν T h13 hf hf2 h
    obtain ⟨fu, rfl⟩ : ∃ m, fu = m + 1 := ⟨fu - 1, by omega⟩
    obtain ⟨fu2, rfl⟩ : ∃ m, fu2 = m + 1 := ⟨fu2 - 1, by omega⟩
    rcases h with hF | ⟨m, p, hi, hc, hR, hG⟩
    · obtain ⟨q, μ2, a1, a2, a3, a4⟩ := fn_f (Or.inr rfl) T hF.x
      have hFn := hF.n
      obtain ⟨qf, hU, hq⟩ := hF
      refine ⟨nI q, μ2, ν, ?_, ?_, a4.rf, RMC.refl, a2, Or.inr ⟨q, a1, rfl⟩, fun e => absurd e (nI_nm1 (by omega))⟩
      · rw [un_accept hU, bd_s, ra_0, a3]
      · show Bo_X12_goThrough_32 _ _ = _
        unfold Bo_X12_goThrough_32
        rw [gI_d ν 78 11, if_neg hFn]
        exact (fn_m a1 a2).2
    · obtain ⟨g, p', μ1, ν1, t0, t1, t2, t3, t4, t5, t6, t7, t8, t9⟩ := hR.nx
      have hg : ¬ g = 59 := by
        rcases t9 with ⟨-, e⟩ | ⟨e, -⟩
        · rw [e]; decide
        · omega
      have A1 := t3.2.1
      have hmp := t3.2.2.2.2.2.1
      have n160 := T.1
      obtain ⟨f, μ2, ν2, a1, -, a3, a4, a5, a6, a7⟩ := fn_s (Or.inr rfl) t3.1 ⟨p', A1, t3.2.2.1, t3.2.2.2.1⟩
      refine ⟨f, μ2, ν2, ?_, ?_, t4.trans a6.rf, t5.c.trans a7.c, a4, a5, fun _ => ⟨m, by have := A1.1; omega, (a6.2.1 4 (by decide) (by decide)).trans t3.2.2.2.2.1, fun hL => ?_⟩⟩
      · unfold D_X4_accept
        rw [gI_d μ 5 2, if_pos hR.2.2.1, t1, bd_s, if_neg hg, bd_s, ra_0, a1]
      · show Bo_X12_goThrough_32 _ _ = _
        unfold Bo_X12_goThrough_32
        rw [gI_d ν 78 11, if_pos hR.2.2.2.1, t2, bd_s, if_neg hg, a3]
      · rw [a6.1 6 (by decide), t6, a7.2.1 14 (by decide) (by decide), t5.2.1 14 (by decide) (by decide) (by decide)]
        exact hG.end hL
  | succ i ih =>
    intro c fu fu2 μ ν T h13 hf hf2 h
    obtain ⟨fu, rfl⟩ : ∃ m, fu = m + 1 := ⟨fu - 1, by omega⟩
    obtain ⟨fu2, rfl⟩ : ∃ m, fu2 = m + 1 := ⟨fu2 - 1, by omega⟩
    rcases h with hF | ⟨m, p, hi, hc, hR, hG⟩
    · obtain ⟨q, μ2, a1, a2, a3, a4⟩ := fn_f (Or.inr rfl) T hF.x
      have hFn := hF.n
      obtain ⟨qf, hU, hq⟩ := hF
      refine ⟨nI q, μ2, ν, ?_, ?_, a4.rf, RMC.refl, a2, Or.inr ⟨q, a1, rfl⟩, fun e => absurd e (nI_nm1 (by omega))⟩
      · rw [un_accept hU, bd_s, ra_0, a3]
      · show Bo_X12_goThrough_32 _ _ = _
        unfold Bo_X12_goThrough_32
        rw [gI_d ν 78 11, if_neg hFn]
        exact (fn_m a1 a2).2
    · obtain ⟨g, p', μ1, ν1, t0, t1, t2, t3, t4, t5, t6, t7, t8, t9⟩ := hR.nx
      have A1 := t3.2.1
      have hmp := t3.2.2.2.2.2.1
      have n160 := T.1
      by_cases hg : g = 59
      · have hp : p' < n := by
          rcases t9 with ⟨-, e⟩ | ⟨e, -⟩
          · exfalso
            rw [e] at hg
            revert hg
            decide
          · exact e
        have R1 := t3.mv (p' := p' + 1) (k' := 0) (by omega) (by omega)
        have M1 : RMR ν (sI ν1 78 10 (nI (p' + 1))) := t5.trans (RMR.s (Or.inl rfl))
        have C1 : RF μ (sI μ1 5 1 (nI (p' + 1))) := t4.trans RF.s5
        have h131 := (M1.2.1 13 (by decide) (by decide) (by decide)).trans h13
        obtain ⟨μ2, ν2, u1, u2, u3, u4, u5⟩ := cl_e R1 h131
        have hG1 : GF (sI ν1 78 10 (nI (p' + 1))) (sI μ1 5 1 (nI (p' + 1))) m := by
          have := hG.nu M1
          unfold GF at this ⊢
          rw [sI_n _ _ _ (show (6 : Nat) ≠ 5 by decide), t6]
          exact this
        obtain ⟨f, μ3, ν3, v1, v2, v3, v4, v5, v6, v7⟩ := ih (c + 1) fu fu2 μ2 ν2 (R1.1.rc u3 u4) ((u4.2.1 13 (by decide) (by decide) (by decide) (by decide) (by decide)).trans h131) (by omega) (by omega) (by
          rcases u5 with u5 | ⟨m2, p2, w1, w2, w3, w4, w5⟩
          · exact Or.inl u5
          · exact Or.inr ⟨m2, p2, by omega, by omega, w3, w5 hG1⟩)
        refine ⟨f, μ3, ν3, ?_, ?_, C1.trans (u3.trans v3), M1.c.trans (u4.trans v4), v5, v6, fun e => ?_⟩
        · unfold D_X4_accept
          rw [gI_d μ 5 2, if_pos hR.2.2.1, t1, bd_s, if_pos hg, lt1, gI_d μ1 5 1, A1.2.1, nI_1, bd_s]
          show Bo_X5_readAll_13 _ _ _ _ = _
          unfold Bo_X5_readAll_13
          rw [if_neg (show ¬ (160 : Int32) ≤ nI (c + 1) by rw [show (160 : Int32) = nI 160 from rfl]; exact nI_ge (by omega) (by omega)), if_neg z10, u1, bd0_s, nI_1]
          exact v1
        · show Bo_X12_goThrough_32 _ _ = _
          unfold Bo_X12_goThrough_32
          rw [gI_d ν 78 11, if_pos hR.2.2.2.1, t2, bd_s, if_pos hg, lt1, gI_d ν1 78 10, A1.2.2, nI_1, u2, bd0_s]
          exact v2
        · obtain ⟨m3, k1, k2, k3⟩ := v7 e
          refine ⟨m3, k1, k2, fun hL => ?_⟩
          have eL : Lm ν2 = Lm ν := (Lm_c u4).trans (Lm_nu M1)
          rw [eL] at k3
          unfold LB at k3 hL
          rw [eL] at k3
          exact k3 hL
      · obtain ⟨f, μ2, ν2, a1, -, a3, a4, a5, a6, a7⟩ := fn_s (Or.inr rfl) t3.1 ⟨p', A1, t3.2.2.1, t3.2.2.2.1⟩
        refine ⟨f, μ2, ν2, ?_, ?_, t4.trans a6.rf, t5.c.trans a7.c, a4, a5, fun _ => ⟨m, by have := A1.1; omega, (a6.2.1 4 (by decide) (by decide)).trans t3.2.2.2.2.1, fun hL => ?_⟩⟩
        · unfold D_X4_accept
          rw [gI_d μ 5 2, if_pos hR.2.2.1, t1, bd_s, if_neg hg, bd_s, ra_0, a1]
        · show Bo_X12_goThrough_32 _ _ = _
          unfold Bo_X12_goThrough_32
          rw [gI_d ν 78 11, if_pos hR.2.2.2.1, t2, bd_s, if_neg hg, a3]
        · rw [a6.1 6 (by decide), t6, a7.2.1 14 (by decide) (by decide), t5.2.1 14 (by decide) (by decide) (by decide)]
          exact hG.end hL
/-- what going through a text leaves as it was in the model -/
def RG (ν ν' : gs_M) : Prop := (∀ b, b ≠ 78 → ν'.1 b = ν.1 b) ∧ (∀ j, j = 6 ∨ j = 7 ∨ 18 ≤ j → ν'.1 78 j = ν.1 78 j) ∧ ν'.2 = ν.2
theorem RG.trans {μ0 μ1 μ2 : gs_M} (h : RG μ0 μ1) (g : RG μ1 μ2) : RG μ0 μ2 := ⟨fun b hb => (g.1 b hb).trans (h.1 b hb), fun j j1 => (g.2.1 j j1).trans (h.2.1 j j1), g.2.2.trans h.2.2⟩
theorem RG.refl {ν : gs_M} : RG ν ν := ⟨fun _ _ => rfl, fun _ _ => rfl, rfl⟩
theorem RG.s {j : Nat} {ν : gs_M} {v : Int32} (h : j < 6 ∨ (7 < j ∧ j < 18)) : RG ν (sI ν 78 j v) :=
  ⟨fun b hb => sI_n _ _ _ hb, fun i i1 => sI_o _ _ (by omega), rfl⟩
theorem RMC.g {ν ν' : gs_M} (h : RMC ν ν') : RG ν ν' := ⟨h.1, fun j hj => h.2.1 j (by omega) (by omega) (by omega) (by omega) (by omega), h.2.2⟩
theorem Lm_g {ν ν' : gs_M} (h : RG ν ν') : Lm ν' = Lm ν := by
  funext i
  unfold Lm
  rw [h.1 82 (by decide)]
theorem rar_e {B b0 n : Nat} {μ ν : gs_M} (n160 : n ≤ 160) (h1 : μ.1 1 1 = nI n) (hB : (B = 79 ∧ b0 = 0) ∨ (B = 80 ∧ b0 ≤ 480)) (hs : ∀ j, j < n → ∃ s, 1 ≤ s ∧ s ≤ 255 ∧ μ.1 2 j = nI s ∧ ν.1 B (b0 + j) = by8 s) : ∃ (f : Int32) (μ' ν' : gs_M), D_X5_readAll μ = some (f, μ') ∧ D_X12_goThrough B (nI b0) (nI n) ν = some ν' ∧ RF μ μ' ∧ RG ν ν' ∧ ν'.1 78 11 = f ∧ (f = -1 ∨ ∃ q, q ≤ 160 ∧ f = nI q) ∧ (f = -1 → ∃ m, m ≤ 160 ∧ μ'.1 5 4 = nI m ∧ (LB ν → woN (Lm ν) (μ'.1 6) m 0 1 [] = ν'.1 78 14)) := by
  obtain ⟨ν1, hν1⟩ : ∃ ν1, ν1 = sI (sI (sI (sI (sI ν 78 5 (nI B)) 78 8 (nI b0)) 78 9 (nI n)) 78 10 0) 78 11 (-1) := ⟨_, rfl⟩
  obtain ⟨ν2, hν2⟩ : ∃ ν2, ν2 = sI (sI (sI (sI ν1 78 13 121) 78 12 0) 78 17 0) 78 14 0 := ⟨_, rfl⟩
  obtain ⟨μ1, hμ1⟩ : ∃ μ1, μ1 = sI (sI (sI μ 5 1 0) 5 2 (-1)) 5 4 0 := ⟨_, rfl⟩
  have hB78 : B ≠ 78 := by omega
  have g1 : RG ν ν1 := by
    rw [hν1]
    exact (RG.s (by omega)).trans ((RG.s (by omega)).trans ((RG.s (by omega)).trans ((RG.s (by omega)).trans (RG.s (by omega)))))
  have g2 : RG ν ν2 := by
    rw [hν2]
    exact g1.trans ((RG.s (by omega)).trans ((RG.s (by omega)).trans ((RG.s (by omega)).trans (RG.s (by omega)))))
  have c1 : RF μ μ1 := by
    rw [hμ1]
    exact RF.s5.trans (RF.s5.trans RF.s5)
  have o2 : ∀ j, j ≠ 13 → j ≠ 12 → j ≠ 17 → j ≠ 14 → ν2.1 78 j = ν1.1 78 j := fun j j1 j2 j3 j4 => by rw [hν2, sI_o _ _ j4, sI_o _ _ j3, sI_o _ _ j2, sI_o _ _ j1]
  have T : TX B b0 n μ1 ν2 := by
    refine ⟨n160, by rw [c1.1 1 (by decide) (by decide)]; exact h1, ?_, ?_, ?_, hB, fun j hj => ?_⟩
    · rw [o2 5 (by decide) (by decide) (by decide) (by decide), hν1, sI_o _ _ (by decide), sI_o _ _ (by decide), sI_o _ _ (by decide), sI_o _ _ (by decide), sI_u]
    · rw [o2 8 (by decide) (by decide) (by decide) (by decide), hν1, sI_o _ _ (by decide), sI_o _ _ (by decide), sI_o _ _ (by decide), sI_u]
    · rw [o2 9 (by decide) (by decide) (by decide) (by decide), hν1, sI_o _ _ (by decide), sI_o _ _ (by decide), sI_u]
    · rw [c1.1 2 (by decide) (by decide), g2.1 B hB78]
      exact hs j hj
  have R : RY B b0 n 0 0 0 0 μ1 ν2 := by
    refine ⟨T, ⟨Nat.zero_le _, ?_, ?_⟩, ?_, ?_, ?_, by omega, ?_⟩
    · rw [hμ1, sI_o _ _ (by decide), sI_o _ _ (by decide), sI_u]; rfl
    · rw [o2 10 (by decide) (by decide) (by decide) (by decide), hν1, sI_o _ _ (by decide), sI_u]; rfl
    · rw [hμ1, sI_o _ _ (by decide), sI_u]
    · rw [o2 11 (by decide) (by decide) (by decide) (by decide), hν1, sI_u]
    · rw [hμ1, sI_u]; rfl
    · rw [hν2, sI_o _ _ (by decide), sI_o _ _ (by decide), sI_u]; rfl
  have h13 : ν2.1 78 13 = 121 := by rw [hν2, sI_o _ _ (by decide), sI_o _ _ (by decide), sI_o _ _ (by decide), sI_u]
  have G : GF ν2 μ1 0 := by
    intro _
    refine Or.inr ⟨by rw [hν2, sI_o _ _ (by decide), sI_u], by rw [hν2, sI_u], fun code n' _ => by rw [Nat.zero_add]⟩
  obtain ⟨μ3, ν3, u1, u2, u3, u4, u5⟩ := cl_e R h13
  obtain ⟨f, μ4, ν4, v1, v2, v3, v4, v5, v6, v7⟩ := ga_l n 0 4095 4096 μ3 ν3 (T.rc u3 u4) ((u4.2.1 13 (by decide) (by decide) (by decide) (by decide) (by decide)).trans h13) (by omega) (by omega) (by
    rcases u5 with u5 | ⟨m2, p2, w1, w2, w3, w4, w5⟩
    · exact Or.inl u5
    · exact Or.inr ⟨m2, p2, by omega, by omega, w3, w5 G⟩)
  refine ⟨f, μ4, ν4, ?_, ?_, c1.trans (u3.trans v3), g2.trans (u4.g.trans v4.g), v5, v6, fun e => ?_⟩
  · unfold D_X5_readAll D_X4_begin
    rw [lt1, lt1, bd0_s, lt1, ← hμ1]
    show Bo_X5_readAll_13 (L_X5_readAll_13 4095) _ _ _ = _
    unfold Bo_X5_readAll_13
    rw [if_neg (by decide), if_neg z10, u1, bd0_s]
    exact v1
  · unfold D_X12_goThrough D_X12_opens
    rw [lt1, lt1, lt1, lt1, lt1, bd0_s, lt1, lt1, lt1, lt1, ← hν1, ← hν2, u2, bd0_s]
    exact v2
  · obtain ⟨m3, k1, k2, k3⟩ := v7 e
    refine ⟨m3, k1, k2, fun hL => ?_⟩
    have eL : Lm ν3 = Lm ν := (Lm_c u4).trans (Lm_g g2)
    rw [eL] at k3
    unfold LB at k3 hL
    rw [eL] at k3
    exact k3 hL
