/-! a row of items -/
def FX (a0 n : Nat) (μ ν : gs_M) : Prop := ∃ q p', q ≤ 160 ∧ p' ≤ n ∧ μ.1 a0 2 = nI q ∧ ν.1 78 11 = nI q ∧ μ.1 a0 1 = nI p'
def SX (a0 n : Nat) (μ ν : gs_M) : Prop := ∃ p, AT a0 n p μ ν ∧ μ.1 a0 2 = -1 ∧ ν.1 78 11 = -1
def IC (row : Nat) (μ μ' : gs_M) : Prop := (∀ b, b ≠ 3 → b ≠ 4 → μ'.1 b = μ.1 b) ∧ (∀ j, j ≠ 1 → j ≠ 2 → μ'.1 3 j = μ.1 3 j) ∧ (∀ j, j < 5 * row ∨ 5 * row + 5 ≤ j → μ'.1 4 j = μ.1 4 j) ∧ μ'.2 = μ.2
def IM (a2 lo hi : Nat) (ν ν' : gs_M) : Prop := (∀ b, b ≠ 78 → b ≠ a2 → ν'.1 b = ν.1 b) ∧ (∀ j, j ≠ 10 → j ≠ 11 → ν'.1 78 j = ν.1 78 j) ∧ (∀ j, j < lo ∨ hi ≤ j → ν'.1 a2 j = ν.1 a2 j) ∧ ν'.2 = ν.2
theorem IC.refl {row : Nat} {μ : gs_M} : IC row μ μ := ⟨fun _ _ _ => rfl, fun _ _ _ => rfl, fun _ _ => rfl, rfl⟩
theorem IM.refl {a2 lo hi : Nat} {ν : gs_M} : IM a2 lo hi ν ν := ⟨fun _ _ _ => rfl, fun _ _ _ => rfl, fun _ _ => rfl, rfl⟩
theorem IC.trans {row : Nat} {μ0 μ1 μ2 : gs_M} (h : IC row μ0 μ1) (g : IC row μ1 μ2) : IC row μ0 μ2 := ⟨fun b b1 b2 => (g.1 b b1 b2).trans (h.1 b b1 b2), fun j j1 j2 => (g.2.1 j j1 j2).trans (h.2.1 j j1 j2), fun j j1 => (g.2.2.1 j j1).trans (h.2.2.1 j j1), g.2.2.2.trans h.2.2.2⟩
theorem IM.trans {a2 lo hi : Nat} {μ0 μ1 μ2 : gs_M} (h : IM a2 lo hi μ0 μ1) (g : IM a2 lo hi μ1 μ2) : IM a2 lo hi μ0 μ2 := ⟨fun b b1 b2 => (g.1 b b1 b2).trans (h.1 b b1 b2), fun j j1 j2 => (g.2.1 j j1 j2).trans (h.2.1 j j1 j2), fun j j1 => (g.2.2.1 j j1).trans (h.2.2.1 j j1), g.2.2.2.trans h.2.2.2⟩
theorem RC.ic {row : Nat} {μ μ' : gs_M} (h : RC 3 μ μ') : IC row μ μ' := ⟨fun b b1 _ => h.1 b b1, h.2.1, fun j _ => by rw [h.1 4 (by decide)], h.2.2⟩
theorem RM.im {a2 lo hi : Nat} {ν ν' : gs_M} (ha : a2 ≠ 78) (h : RM ν ν') : IM a2 lo hi ν ν' := ⟨fun b b1 _ => h.1 b b1, h.2.1, fun j _ => by rw [h.1 a2 ha], h.2.2⟩
theorem IC.s {row j : Nat} {μ : gs_M} {v : Int32} (hj : j < 5) : IC row μ (sI μ 4 (5 * row + j) v) := ⟨fun b _ b2 => sI_n _ _ _ b2, fun i _ _ => by rw [sI_n _ _ _ (by decide)], fun i hi => sI_o _ _ (by omega), rfl⟩
theorem IM.s {a2 lo hi j : Nat} {ν : gs_M} {v : Int32} (ha : a2 ≠ 78) (h1 : lo ≤ j) (h2 : j < hi) : IM a2 lo hi ν (sI ν a2 j v) := ⟨fun b _ b2 => sI_n _ _ _ b2, fun i _ _ => by rw [sI_n _ _ _ (Ne.symm ha)], fun i hi => sI_o _ _ (by omega), rfl⟩
theorem TX.i {row a2 lo hi n : Nat} {μ ν μ' ν' : gs_M} (ha : 83 ≤ a2) (h : TX 79 0 n μ ν) (hc : IC row μ μ') (hm : IM a2 lo hi ν ν') : TX 79 0 n μ' ν' :=
  h.go (hc.1 _ (by decide) (by decide)) (hc.1 _ (by decide) (by decide)) (hm.2.1 _ (by decide) (by decide)) (hm.2.1 _ (by decide) (by decide)) (hm.2.1 _ (by decide) (by decide)) (hm.1 _ (by decide) (by omega))
theorem is_e (a0 : Nat) (μ : gs_M) : D_X4_isSound a0 μ = some (if μ.1 a0 2 = -1 then 1 else 0, μ) := by
  unfold D_X4_isSound
  rw [gI_d]
  split <;> rfl
/-- a sign is taken, or not -/
theorem acc_e {a0 B b0 n : Nat} {x : Int32} {μ ν : gs_M} (ha : a0 = 3 ∨ a0 = 5) (hx : x ≠ -1) (hT : TX B b0 n μ ν) (hS : SX a0 n μ ν) : ∃ (g : Int32) (p' : Nat) (μ1 ν1 : gs_M), D_X12_look ν = some (g, ν1) ∧ AT a0 n p' μ1 ν1 ∧ RC a0 μ μ1 ∧ RM ν ν1 ∧ μ1.1 a0 2 = -1 ∧ ν1.1 78 11 = -1 ∧ ((g = x ∧ p' < n ∧ D_X4_accept a0 x μ = some (1, sI μ1 a0 1 (nI (p' + 1)))) ∨ (g ≠ x ∧ D_X4_accept a0 x μ = some (0, μ1))) := by
  obtain ⟨p, hA, h1, h2⟩ := hS
  obtain ⟨g, p', μ1, ν1, t0, t1, t2, t3, t4, t5, t6, t7, t8⟩ := nx_e ha hT hA
  refine ⟨g, p', μ1, ν1, t2, t3, t4, t5, t6.trans h1, t7.trans h2, ?_⟩
  have e : D_X4_accept a0 x μ = if g = x then some (1, sI μ1 a0 1 (nI (p' + 1))) else some (0, μ1) := by
    unfold D_X4_accept
    rw [gI_d, if_pos h1, t1, bd_s, lt1, gI_d, t3.2.1, nI_1]
  by_cases q : g = x
  · refine Or.inl ⟨q, ?_, by rw [e, if_pos q]⟩
    rcases t8 with ⟨-, z⟩ | ⟨z, -⟩
    · exact absurd (q.symm.trans z) hx
    · exact z
  · exact Or.inr ⟨q, by rw [e, if_neg q]⟩
theorem ixr_e {r j : Nat} (hr : r < 4) (hj : j < 5) : nI r * 5 + nI j = nI (5 * r + j) := by
  rw [show (5 : Int32) = nI 5 from rfl, ← nI_add, show nI (5 * r) = nI r * nI 5 from ?_]
  have : r = 0 ∨ r = 1 ∨ r = 2 ∨ r = 3 := by omega
  rcases this with rfl | rfl | rfl | rfl <;> rfl
theorem NL5 (k : Nat) : NL k ≤ 5 := by unfold NL; split <;> omega
/-- a number of a letter -/
theorem rn_e {k row it n : Nat} {μ ν : gs_M} (hk : k ≤ 2) (hit : it < NL k) (hrow : row < 4) (h5 : μ.1 3 5 = nI k) (hT : TX 79 0 n μ ν) (hS : SX 3 n μ ν) : ∃ (w : Int32) (μ' ν' : gs_M), D_X2_readNumber (nI row) (nI it) μ = some μ' ∧ D_X12_number (cA 1 (5 * k + it)) (cA 2 (5 * k + it)) ν = some (w, ν') ∧ IC row μ μ' ∧ RM ν ν' ∧ (FX 3 n μ' ν' ∨ (SX 3 n μ' ν' ∧ μ'.1 4 = upd (μ.1 4) (5 * row + it) w ∧ VL k it w)) := by
  obtain ⟨p, hA, h1, h2⟩ := hS
  obtain ⟨v, w, μ1, ν', t1, t2, p', t3, t4, t5, t6, t7⟩ := dg_e (lo := cA 1 (5 * k + it)) (hi := cA 2 (5 * k + it)) (Or.inl rfl) hT hA h1 h2
  have h160 := hT.1
  have hN := NL5 k
  have e5 : μ1.1 3 5 = nI k := (t5.2.1 5 (by decide) (by decide)).trans h5
  have e4 : μ1.1 4 = μ.1 4 := t5.1 4 (by decide)
  have put : ∀ (u : gs_M) (x : Int32), B_X2_readNumber_54 (nI row) (nI it) x u = some (sI u 4 (5 * row + it) x) := by
    intro u x
    unfold B_X2_readNumber_54
    rw [ixr_e hrow (by omega), inb_n (by omega) (by decide), ck_t, nI_clamp (by omega), lt1]
  have rd : D_X2_readNumber (nI row) (nI it) μ = if μ1.1 3 2 = -1 then (if inN v (cA 1 (5 * k + it)) (cA 2 (5 * k + it)) = 0 then bd0 (D_X4_failAt 3 (nI p' - 1) μ1) (fun u => some (sI u 4 (5 * row + it) v)) else some (sI μ1 4 (5 * row + it) v)) else some (sI μ1 4 (5 * row + it) v) := by
    unfold D_X2_readNumber
    rw [t1, bd_s, is_e, bd_s]
    by_cases q : μ1.1 3 2 = -1
    · rw [if_pos q, if_pos q, if_neg z10, gI_d, e5, ixr_e (by omega) (by omega), inb_n (by omega) (by decide), ck_t, ck_t, nI_clamp (by omega), wi_e, bd_s, gI_d, t4, put]
      congr 1
      congr 1
      funext u
      exact put u v
    · rw [if_neg q, if_neg q, if_pos rfl, put]
  rw [rd]
  rcases t7 with ⟨q, hq, f1, f2⟩ | ⟨f1, hp1, ⟨kk, hkk, rfl⟩, ⟨g1, rfl, g2, g3⟩ | ⟨g1, g2⟩⟩
  · rw [if_neg (by rw [f1]; exact nI_nm1 (by omega))]
    refine ⟨w, _, ν', rfl, t2, t5.ic.trans (IC.s (by omega)), t6, Or.inl ⟨q, p', hq, t3, ?_, f2, ?_⟩⟩
    · rw [sI_n _ _ _ (by decide)]; exact f1
    · rw [sI_n _ _ _ (by decide)]; exact t4
  · rw [if_pos f1, g1, if_neg z10]
    refine ⟨_, _, ν', rfl, t2, t5.ic.trans (IC.s (by omega)), t6, Or.inr ⟨⟨p', ⟨t3, ?_, g2⟩, ?_, g3⟩, ?_, ?_⟩⟩
    · rw [sI_n _ _ _ (by decide)]; exact t4
    · rw [sI_n _ _ _ (by decide)]; exact f1
    · rw [sI_s, e4]
    · rcases inN_k (nI kk) (lo := cA 1 (5 * k + it)) (hi := cA 2 (5 * k + it)) rfl rfl with z | ⟨-, z1, z2⟩
      · rw [z] at g1
        exact absurd g1 (by decide)
      · exact ⟨z1, z2⟩
  · rw [if_pos f1, if_pos g1, nI_m1 hp1, fl_e (p := 0) f1, bd0_s]
    refine ⟨w, _, ν', rfl, t2, (t5.ic.trans (RC.s (Or.inr rfl)).ic).trans (IC.s (by omega)), t6, Or.inl ⟨p' - 1, p', by omega, t3, ?_, g2, ?_⟩⟩
    · rw [sI_n _ _ _ (by decide)]; exact sI_u _ _ _ _
    · rw [sI_n _ _ _ (by decide), sI_o _ _ (by decide)]; exact t4
/-- the row as both have it -/
def RW (k row a2 x3 : Nat) (μ ν : gs_M) : Prop := ∀ j, j < NL k → μ.1 4 (5 * row + j) = ν.1 a2 (x3 + j) ∧ VL k j (ν.1 a2 (x3 + j))
theorem fx_e {n p : Nat} {μ ν : gs_M} {a0 : Nat} (hn : n ≤ 160) (hA : AT a0 n p μ ν) (h1 : μ.1 a0 2 = -1) (h2 : ν.1 78 11 = -1) : D_X4_failAt a0 (nI p) μ = some (sI μ a0 2 (nI p)) ∧ D_X12_fails ν = some (0, sI ν 78 11 (nI p)) ∧ FX a0 n (sI μ a0 2 (nI p)) (sI ν 78 11 (nI p)) :=
  ⟨fl_e (p := p) h1 _, fm_e hA.2.2 h2, p, p, by have := hA.1; omega, hA.1, sI_u _ _ _ _, sI_u _ _ _ _, (sI_o _ _ (by decide)).trans hA.2.1⟩
theorem row_loop {k row n a2 x3 : Nat} (hk : k ≤ 2) (hrow : row < 4) (ha : 83 ≤ a2) (hx : x3 + 5 ≤ ln a2) (hl : ln a2 < 2 ^ 31) : ∀ (m b fu fu2 : Nat) (μ ν : gs_M), b < 32 → pcn b + m = 6 → m < fu → m < fu2 → TX 79 0 n μ ν → SX 3 n μ ν → μ.1 3 5 = nI k → RW k row a2 x3 μ ν → ∃ (μ' ν' : gs_M), L_X2_readRow_42 fu (nI row) (nI b) 1 (nI (pcn b)) μ = some μ' ∧ L_X12_readItems_49 fu2 a2 (nI x3) (107 + k) (nI b) 1 ν = some ν' ∧ IC row μ μ' ∧ IM a2 x3 (x3 + 5) ν ν' ∧ (FX 3 n μ' ν' ∨ (SX 3 n μ' ν' ∧ RW k row a2 x3 μ' ν')) := by
  intro m
  induction m with
  | zero =>
    intro b fu fu2 μ ν hb hm
    have := pcn_5 ⟨b, hb⟩
    exfalso
    simp only at this
    omega
  | succ m ih =>
    intro b fu fu2 μ ν hb hm hf hf2 hT hS h5 hR
    obtain ⟨fu, rfl⟩ : ∃ m, fu = m + 1 := ⟨fu - 1, by omega⟩
    obtain ⟨fu2, rfl⟩ : ∃ m, fu2 = m + 1 := ⟨fu2 - 1, by omega⟩
    have hN := NL5 k
    have h160 := hT.1
    have ha2 : a2 ≠ 78 := by omega
    obtain ⟨p, hA, h1, h2⟩ := hS
    obtain ⟨g, p', μ1, ν1, t0, t1, t2, t3, t4, t5, t6, t7, t8⟩ := nx_e (Or.inl rfl) hT hA
    have hg : g ≠ 0 := by
      rcases t8 with ⟨-, rfl⟩ | ⟨-, s, s1, s2, -, rfl, -⟩
      · decide
      · exact nI_ne0 (by omega) (by omega)
    have e5 : μ1.1 3 5 = nI k := (t4.2.1 5 (by decide) (by decide)).trans h5
    have ei := it_i hk hg e5
    obtain ⟨F1, F2, F3⟩ := fx_e h160 t3 (t6.trans h1) (t7.trans h2)
    have hT1 := hT.r (Or.inl rfl) t4 t5
    have c1 : L_X2_readRow_42 (fu + 1) (nI row) (nI b) 1 (nI (pcn b)) μ = if itm k g = -1 then some (sI μ1 3 2 (nI p')) else (if ((nI b >>> (itm k g &&& 31)) &&& (1 : Int32)) = (1 : Int32) then some (sI μ1 3 2 (nI p')) else bd0 (D_X2_readNumber (nI row) (itm k g) (sI μ1 3 1 (nI (p' + 1)))) (fun u14 => bd (D_X4_accept 3 (44 : Int32) u14) (fun v17 u16 => L_X2_readRow_42 fu (nI row) (nI b ||| ((1 : Int32) <<< (itm k g &&& 31))) v17 (nI (pcn b + 1)) u16))) := by
      show Bo_X2_readRow_42 _ _ _ _ _ _ = _
      unfold Bo_X2_readRow_42 B_X2_readRow_78
      rw [if_neg (show ¬ (5 : Int32) < nI (pcn b) by rw [show (5 : Int32) = nI 5 from rfl]; exact nI_nlt (by omega) (by omega)), if_neg (show ¬ (1 : Int32) = 0 by decide), t1, bd_s, ei, bd_s, lt1, lt1, gI_d, t3.2.1, F1, bd0_s, nI_1, nI_1]
    have m1 : L_X12_readItems_49 (fu2 + 1) a2 (nI x3) (107 + k) (nI b) 1 ν = B_X12_readItems_77 (L_X12_readItems_49 fu2) a2 (nI x3) (107 + k) (nI b) g (itm k g) ν1 := by
      show Bo_X12_readItems_49 _ _ _ _ _ _ _ = _
      unfold Bo_X12_readItems_49
      rw [if_neg (show ¬ (1 : Int32) = 0 by decide), t2, bd_s, pl_i hk, bd_s]
      by_cases q : g = -1
      · subst q
        rw [if_pos rfl]
        congr 1
        have : k = 0 ∨ k = 1 ∨ k = 2 := by omega
        rcases this with rfl | rfl | rfl <;> rfl
      · rw [if_neg q]
    have flt : B_X12_readItems_95 ν1 = some (sI ν1 78 11 (nI p')) := by
      unfold B_X12_readItems_95
      rw [F2, bd_s]
    have bad : ∃ (μ' ν' : gs_M), some (sI μ1 3 2 (nI p')) = some μ' ∧ some (sI ν1 78 11 (nI p')) = some ν' ∧ IC row μ μ' ∧ IM a2 x3 (x3 + 5) ν ν' ∧ (FX 3 n μ' ν' ∨ (SX 3 n μ' ν' ∧ RW k row a2 x3 μ' ν')) :=
      ⟨_, _, rfl, rfl, t4.ic.trans (RC.s (Or.inr rfl)).ic, (t5.im ha2).trans ((RM.s (Or.inr rfl)).im ha2), Or.inl F3⟩
    rw [c1, m1]
    unfold B_X12_readItems_77
    rcases lb_e g hk with e | ⟨it, hit, e, l1, l2⟩
    · rw [if_pos e, if_pos e, flt]
      exact bad
    · have hitn : ¬ nI it = -1 := nI_nm1 (by omega)
      have hp' : p' < n := by
        rcases t8 with ⟨-, rfl⟩ | ⟨z, -⟩
        · exfalso
          have : itm k (-1) = -1 := by
            have : k = 0 ∨ k = 1 ∨ k = 2 := by omega
            rcases this with rfl | rfl | rfl <;> rfl
          exact hitn (e.symm.trans this)
        · exact z
      rw [e, if_neg hitn, if_neg hitn]
      unfold D_X12_has
      rcases bit_d ⟨b, hb⟩ ⟨it, by omega⟩ with ⟨q, -⟩ | ⟨q, c, q2, q3⟩
      · simp only at q
        rw [if_pos q, if_pos q, bd_s, if_neg z10, flt]
        exact bad
      · simp only at q q2 q3
        rw [if_neg q, if_neg q, bd_s, if_pos rfl, q2, lt1, lt1, gI_d, t3.2.2, nI_1, l1, bd_s, l2, bd_s]
        have S1 : SX 3 n (sI μ1 3 1 (nI (p' + 1))) (sI ν1 78 10 (nI (p' + 1))) := ⟨p' + 1, ⟨by omega, sI_u _ _ _ _, sI_u _ _ _ _⟩, (sI_o _ _ (by decide)).trans (t6.trans h1), (sI_o _ _ (by decide)).trans (t7.trans h2)⟩
        have T1 : TX 79 0 n (sI μ1 3 1 (nI (p' + 1))) (sI ν1 78 10 (nI (p' + 1))) := hT1.r (Or.inl rfl) (RC.s (Or.inl rfl)) (RM.s (Or.inl rfl))
        have C1 : IC row μ (sI μ1 3 1 (nI (p' + 1))) := t4.ic.trans (RC.s (Or.inl rfl)).ic
        have M1 : RM ν (sI ν1 78 10 (nI (p' + 1))) := t5.trans (RM.s (Or.inl rfl))
        obtain ⟨w, μ2, ν2, u1, u2, u3, u4, u5⟩ := rn_e hk hit hrow ((sI_o _ _ (by decide)).trans e5) T1 S1
        rw [u1, bd0_s, u2, bd_s]
        have C2 := C1.trans u3
        have M2 := M1.trans u4
        have T2 : TX 79 0 n μ2 ν2 := hT.i ha C2 (M2.im ha2 (lo := 0) (hi := 0))
        rcases u5 with ⟨qf, pf, f1, f2, f3, f4, f5⟩ | ⟨S2, w1, w2⟩
        · have ea : D_X4_accept 3 44 μ2 = some (0, μ2) := by
            unfold D_X4_accept
            rw [gI_d, f3, if_neg (nI_nm1 (by omega))]
          rw [ea, bd_s, gI_d, f4, if_neg (nI_nm1 (by omega))]
          refine ⟨μ2, ν2, ?_, rfl, C2, M2.im ha2, Or.inl ⟨qf, pf, f1, f2, f3, f4, f5⟩⟩
          obtain ⟨fu, rfl⟩ : ∃ m, fu = m + 1 := ⟨fu - 1, by omega⟩
          show Bo_X2_readRow_42 _ _ _ _ _ _ = _
          unfold Bo_X2_readRow_42
          rw [if_pos (show (0 : Int32) = 0 from rfl)]
          split <;> rfl
        · have S2' := S2
          obtain ⟨p2, A2, s1, s2⟩ := S2'
          obtain ⟨ν3, hν3⟩ : ∃ ν3, ν3 = sI ν2 a2 (x3 + it) w := ⟨_, rfl⟩
          have M3 : IM a2 x3 (x3 + 5) ν ν3 := (M2.im ha2).trans (by rw [hν3]; exact IM.s ha2 (by omega) (by omega))
          have n78 : ν3.1 78 = ν2.1 78 := by rw [hν3]; exact sI_n _ _ _ (Ne.symm ha2)
          have T3 : TX 79 0 n μ2 ν3 := hT.i ha C2 M3
          have S3 : SX 3 n μ2 ν3 := ⟨p2, ⟨A2.1, A2.2.1, by rw [n78]; exact A2.2.2⟩, s1, by rw [n78]; exact s2⟩
          have R3 : RW k row a2 x3 μ2 ν3 := by
            intro j hj
            have o1 : (sI μ1 3 1 (nI (p' + 1))).1 4 = μ.1 4 := by rw [sI_n _ _ _ (by decide)]; exact t4.1 4 (by decide)
            have o2 : ν2.1 a2 = ν.1 a2 := M2.1 a2 ha2
            rw [w1, o1, hν3]
            by_cases qj : j = it
            · subst qj
              rw [sI_u]
              exact ⟨if_pos rfl, w2⟩
            · rw [sI_o _ _ (by omega), o2, show upd (μ.1 4) (5 * row + it) w (5 * row + j) = μ.1 4 (5 * row + j) from pk_un (by omega)]
              exact hR j hj
          obtain ⟨g4, p4, μ4, ν4, v1, v2, v3, v4, v5, v6, v7⟩ := acc_e (x := 44) (Or.inl rfl) (by decide) T3 S3
          have R4 : RW k row a2 x3 μ4 ν4 := fun j hj => by rw [v3.1 4 (by decide), v4.1 a2 ha2]; exact R3 j hj
          have C4 := C2.trans v3.ic
          have M4 := M3.trans (v4.im ha2)
          rw [gI_d, if_pos s2, nI_add, inb_n (show x3 + it < ln a2 by omega) hl, ck_t, nI_clamp (by omega), ← hν3, lt1, v1, bd_s]
          rcases v7 with ⟨rfl, hp4, ea⟩ | ⟨hg4, ea⟩
          · rw [ea, bd_s, if_pos rfl]
            unfold B_X12_readItems_167
            rw [if_neg (show ¬ (1 : Int32) = 0 by decide), lt1, gI_d, v2.2.2, nI_1, ← q3]
            have e5' : (sI μ4 3 1 (nI (p4 + 1))).1 3 5 = nI k := by
              rw [sI_o _ _ (by decide)]
              exact (C4.2.1 5 (by decide) (by decide)).trans h5
            obtain ⟨μ', ν', y1, y2, y3, y4, y5⟩ := ih c.1 fu fu2 (sI μ4 3 1 (nI (p4 + 1))) (sI ν4 78 10 (nI (p4 + 1))) c.2 (by omega) (by omega) (by omega) ((T3.r (Or.inl rfl) v3 v4).r (Or.inl rfl) (RC.s (Or.inl rfl)) (RM.s (Or.inl rfl))) ⟨p4 + 1, ⟨by omega, sI_u _ _ _ _, sI_u _ _ _ _⟩, (sI_o _ _ (by decide)).trans v5, (sI_o _ _ (by decide)).trans v6⟩ e5' (fun j hj => by rw [sI_n _ _ _ (by decide), sI_n _ _ _ ha2]; exact R4 j hj)
            exact ⟨μ', ν', y1, y2, (C4.trans (RC.s (Or.inl rfl)).ic).trans y3, (M4.trans ((RM.s (Or.inl rfl)).im ha2)).trans y4, y5⟩
          · rw [ea, bd_s, if_neg hg4]
            unfold B_X12_readItems_167
            rw [if_pos (show (0 : Int32) = 0 from rfl)]
            obtain ⟨fu, rfl⟩ : ∃ m, fu = m + 1 := ⟨fu - 1, by omega⟩
            obtain ⟨fu2, rfl⟩ : ∃ m, fu2 = m + 1 := ⟨fu2 - 1, by omega⟩
            refine ⟨μ4, ν4, ?_, ?_, C4, M4, Or.inr ⟨⟨p4, v2, v5, v6⟩, R4⟩⟩
            · show Bo_X2_readRow_42 _ _ _ _ _ _ = _
              unfold Bo_X2_readRow_42
              rw [if_pos (show (0 : Int32) = 0 from rfl)]
              split <;> rfl
            · show Bo_X12_readItems_49 _ _ _ _ _ _ _ = _
              unfold Bo_X12_readItems_49
              rw [if_pos (show (0 : Int32) = 0 from rfl)]
