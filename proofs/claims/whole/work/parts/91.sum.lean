/-! loops of term and sum -/
theorem Lm_nu {ν ν' : gs_M} (h : RMR ν ν') : Lm ν' = Lm ν := by
  funext i
  unfold Lm
  rw [h.1 82 (by decide)]
theorem EV.nu {ν ν' μ : gs_M} {m m' : Nat} {v : Int32} (h : RMR ν ν') (g : EV ν' μ m m' v) : EV ν μ m m' v := by
  unfold EV LB at *
  rw [Lm_nu h] at g
  exact g
theorem EV.nu2 {ν ν' μ : gs_M} {m m' : Nat} {v : Int32} (h : RMR ν ν') (g : EV ν μ m m' v) : EV ν' μ m m' v := by
  unfold EV LB at *
  rw [Lm_nu h]
  exact g
theorem EV.mu {ν μ μ' : gs_M} {m m' : Nat} {v : Int32} (g : EV ν μ m m' v) (h : ∀ j, j < m' → μ'.1 6 j = μ.1 6 j) : EV ν μ' m m' v := by
  intro hL
  obtain ⟨h1, h2, h3⟩ := g hL
  refine ⟨h1, fun s => ?_, fun j j1 j2 => by rw [h j j2]; exact h3 j j1 j2⟩
  rw [runN_code (code := μ.1 6) (code' := μ'.1 6) (m' - m) m s (fun j j1 j2 => h j (by omega))]
  exact h2 s
def dvN (x y : Int32) : Int32 := if y = 0 then wN 0 else wN (Int32.toInt64 x / Int32.toInt64 y)
theorem dvN_e {x y : Int32} (hx : BD x) (hy : BD y) : jn 47 x y = dvN x y := by
  unfold dvN
  by_cases q : y = 0
  · rw [if_pos q, q]; exact ar_d0 x
  · rw [if_neg q]; exact ar_div hx hy q
theorem dvN_b (x y : Int32) : BD (dvN x y) := by
  unfold dvN
  split <;> exact wN_b _
theorem tm_45 {F : Nat → Int32 → Int32 → gs_M → Option (Int32 × gs_M)} {q : Int32 → gs_M → Option (Int32 × gs_M)} {x w : Int32} {p : Nat} {ν ν2 : gs_M} (hp : ν.1 78 10 = nI p) (h : F 0 0 0 (sI ν 78 10 (nI (p + 1))) = some (w, ν2)) : B_X12_term_45 F q x 1 ν = q (wN (Int32.toInt64 x * Int32.toInt64 w)) ν2 ∧ B_X12_term_45 F q x 0 ν = q (dvN x w) ν2 := by
  unfold B_X12_term_45 B_X12_term_87
  constructor
  · rw [gI_d ν 78 10, hp, nI_1, lt1, h, bd_s, lt1, if_neg z10, wn_e, bd_s]
  · rw [gI_d ν 78 10, hp, nI_1, lt1, h, bd_s, lt1, if_pos rfl, wn_e, bd_s, wn_e, bd_s]
    unfold dvN
    by_cases q : w = 0
    · rw [if_pos (z64.mpr q), if_pos q]
    · rw [if_neg (fun e => q (z64.mp e)), if_neg q, nz64 q, ck_t]
theorem sm_45 {F : Nat → Int32 → Int32 → gs_M → Option (Int32 × gs_M)} {q : Int32 → gs_M → Option (Int32 × gs_M)} {x w : Int32} {p : Nat} {ν ν2 : gs_M} (hp : ν.1 78 10 = nI p) (h : F 1 0 0 (sI ν 78 10 (nI (p + 1))) = some (w, ν2)) : B_X12_sum_45 F q x 1 ν = q (wN (Int32.toInt64 x + Int32.toInt64 w)) ν2 ∧ B_X12_sum_45 F q x 0 ν = q (wN (Int32.toInt64 x - Int32.toInt64 w)) ν2 := by
  unfold B_X12_sum_45 B_X12_sum_77
  constructor
  · rw [gI_d ν 78 10, hp, nI_1, lt1, h, bd_s, lt1, if_neg z10, wn_e, bd_s]
  · rw [gI_d ν 78 10, hp, nI_1, lt1, h, bd_s, lt1, if_pos rfl, wn_e, bd_s]
theorem gs_wb (z : Int64) (_ : Nat) : BD (wN z) := wN_b z

theorem tm_l {B b0 n d k m0 : Nat} {E : Nat → Int32 → gs_M → Option gs_M} {F : Nat → Int32 → Int32 → gs_M → Option (Int32 × gs_M)} (hE : VK B b0 n d (E 6 (nI d)) (F 0 0 0)) : ∀ (i c m p fu fu2 : Nat) (v : Int32) (μ ν : gs_M), n - p ≤ i → i < fu → i < fu2 → c < p → m0 ≤ m → RY B b0 n d k m p μ ν → EV ν μ m0 m v → ∃ (v' : Int32) (μ' ν' : gs_M), L_X5_readTerm_7 E fu (nI d) (nI c) μ = some μ' ∧ L_X12_term_5 F fu2 v ν = some (v', ν') ∧ RF μ μ' ∧ RMR ν ν' ∧ (FLT n μ' ν' ∨ ∃ m' p', m ≤ m' ∧ p ≤ p' ∧ RY B b0 n d k m' p' μ' ν' ∧ (∀ j, j < m → μ'.1 6 j = μ.1 6 j) ∧ EV ν μ' m0 m' v') := by
  intro i
  induction i with
  | zero =>
    intro c m p fu fu2 v μ ν hi hf hf2 hc hm0 hR hV
    obtain ⟨fu, rfl⟩ : ∃ m, fu = m + 1 := ⟨fu - 1, by omega⟩
    obtain ⟨fu2, rfl⟩ : ∃ m, fu2 = m + 1 := ⟨fu2 - 1, by omega⟩
    obtain ⟨g, p', μ1, ν1, t0, t1, t2, t3, t4, t5, t6, t7, t8, t9⟩ := hR.nx
    have n160 := hR.1.1
    have pn := hR.2.1.1
    have s1 := hR.2.2.1
    have s2 := hR.2.2.2.1
    have hg : g = -1 := by
      rcases t9 with ⟨-, e⟩ | ⟨e, -⟩
      · exact e
      · omega
    refine ⟨v, μ1, ν1, ?_, ?_, t4, t5, Or.inr ⟨m, p', Nat.le_refl _, t0, t3, fun j _ => by rw [t6], hV.mu (fun j _ => by rw [t6])⟩⟩
    · show Bo_X5_readTerm_7 _ _ _ _ _ = _
      unfold Bo_X5_readTerm_7
      rw [if_neg (show ¬ (160 : Int32) ≤ nI c by rw [show (160 : Int32) = nI 160 from rfl]; exact nI_ge (by omega) (by omega)), is_e, if_pos s1, bd_s, if_neg z10, t1, bd_s, if_neg (by rw [hg]; decide), t7, bd_s, if_neg (by rw [hg]; decide)]
    · show Bo_X12_term_5 _ _ _ _ = _
      unfold Bo_X12_term_5
      rw [gI_d ν 78 11, if_pos s2, t2, bd_s, if_neg (by rw [hg]; decide), t8, bd_s, if_neg (by rw [hg]; decide)]
  | succ i ih =>
    intro c m p fu fu2 v μ ν hi hf hf2 hc hm0 hR hV
    obtain ⟨fu, rfl⟩ : ∃ m, fu = m + 1 := ⟨fu - 1, by omega⟩
    obtain ⟨fu2, rfl⟩ : ∃ m, fu2 = m + 1 := ⟨fu2 - 1, by omega⟩
    obtain ⟨g, p', μ1, ν1, t0, t1, t2, t3, t4, t5, t6, t7, t8, t9⟩ := hR.nx
    have n160 := hR.1.1
    have pn := hR.2.1.1
    have s1 := hR.2.2.1
    have s2 := hR.2.2.2.1
    have A1 := t3.2.1
    have hmp := t3.2.2.2.2.2.1
    have c1 : L_X5_readTerm_7 E (fu + 1) (nI d) (nI c) μ = if g = 42 then B_X5_readTerm_39 E (L_X5_readTerm_7 E fu) (nI d) (nI c) μ1 else if g = 47 then B_X5_readTerm_39 E (L_X5_readTerm_7 E fu) (nI d) (nI c) μ1 else some μ1 := by
      show Bo_X5_readTerm_7 _ _ _ _ _ = _
      unfold Bo_X5_readTerm_7
      rw [if_neg (show ¬ (160 : Int32) ≤ nI c by rw [show (160 : Int32) = nI 160 from rfl]; exact nI_ge (by omega) (by omega)), is_e, if_pos s1, bd_s, if_neg z10, t1, bd_s, t7, bd_s]
    have m1 : L_X12_term_5 F (fu2 + 1) v ν = if g = 42 then B_X12_term_45 F (L_X12_term_5 F fu2) v 1 ν1 else if g = 47 then B_X12_term_45 F (L_X12_term_5 F fu2) v 0 ν1 else some (v, ν1) := by
      show Bo_X12_term_5 _ _ _ _ = _
      unfold Bo_X12_term_5 B_X12_term_31
      rw [gI_d ν 78 11, if_pos s2, t2, bd_s, t8, bd_s, bd_s, t8, bd_s]
      by_cases q : g = 42
      · rw [if_pos q, if_pos q, if_pos q]
      · rw [if_neg q, if_neg q, if_neg q]
    rw [c1, m1]
    by_cases qq : g = 42 ∨ g = 47
    · have hp : p' < n := by
        rcases t9 with ⟨-, e⟩ | ⟨e, -⟩
        · exfalso
          rw [e] at qq
          revert qq
          decide
        · exact e
      obtain ⟨w, μ2, ν2, u1, u2, u3, u4, u5⟩ := hE (k + 1) m (p' + 1) _ _ (t3.mv (p' := p' + 1) (k' := k + 1) (by omega) (by omega))
      obtain ⟨x1, x2⟩ := tm_45 (q := L_X12_term_5 F fu2) (x := v) A1.2.2 u2
      rw [x1, x2]
      have cB : B_X5_readTerm_39 E (L_X5_readTerm_7 E fu) (nI d) (nI c) μ1 = bd0 (D_X5_put (-g) μ2) (fun u8 => L_X5_readTerm_7 E fu (nI d) (nI (c + 1)) u8) := by
        unfold B_X5_readTerm_39
        rw [t7, bd_s, lt1, gI_d μ1 5 1, A1.2.1, nI_1, u1, bd0_s, nI_1]
      rw [cB]
      have hvv : ∃ v2 : Int32, (if g = 42 then L_X12_term_5 F fu2 (wN (Int32.toInt64 v * Int32.toInt64 w)) ν2 else if g = 47 then L_X12_term_5 F fu2 (dvN v w) ν2 else some (v, ν1)) = L_X12_term_5 F fu2 v2 ν2 ∧ (LB ν → BD v → BD w → BD v2 ∧ ∀ s, run1 (Lm ν) (-g) (w :: v :: s) = v2 :: s) := by
        by_cases q : g = 42
        · refine ⟨wN (Int32.toInt64 v * Int32.toInt64 w), by rw [if_pos q], fun _ h1 h2 => ⟨wN_b _, fun s => ?_⟩⟩
          rw [q, show (42 : Int32) = nI 42 from rfl, r1_b (by omega), show nI 42 = (42 : Int32) from rfl, ar_mul]
        · have q2 : g = 47 := by rcases qq with e | e; exact absurd e q; exact e
          refine ⟨dvN v w, by rw [if_neg q, if_pos q2], fun _ h1 h2 => ⟨dvN_b _ _, fun s => ?_⟩⟩
          rw [q2, show (47 : Int32) = nI 47 from rfl, r1_b (by omega), show nI 47 = (47 : Int32) from rfl, dvN_e h1 h2]
      obtain ⟨v2, hv2, hop⟩ := hvv
      have hok : OKc (-g) := by
        rcases qq with e | e
        · rw [e, show (42 : Int32) = nI 42 from rfl]; exact okc_b (by omega)
        · rw [e, show (47 : Int32) = nI 47 from rfl]; exact okc_b (by omega)
      rw [hv2]
      have cC : (if g = 42 then bd0 (D_X5_put (-g) μ2) (fun u8 => L_X5_readTerm_7 E fu (nI d) (nI (c + 1)) u8) else if g = 47 then bd0 (D_X5_put (-g) μ2) (fun u8 => L_X5_readTerm_7 E fu (nI d) (nI (c + 1)) u8) else some μ1) = bd0 (D_X5_put (-g) μ2) (fun u8 => L_X5_readTerm_7 E fu (nI d) (nI (c + 1)) u8) := by
        by_cases q : g = 42
        · rw [if_pos q]
        · have q2 : g = 47 := by rcases qq with e | e; exact absurd e q; exact e
          rw [if_neg q, if_pos q2]
      rw [cC]
      obtain ⟨fu, rfl⟩ : ∃ m, fu = m + 1 := ⟨fu - 1, by omega⟩
      obtain ⟨fu2, rfl⟩ : ∃ m, fu2 = m + 1 := ⟨fu2 - 1, by omega⟩
      have M2 : RMR ν ν2 := t5.trans ((RMR.s (Or.inl rfl)).trans u4)
      have C2 : RF μ μ2 := t4.trans (RF.s5.trans u3)
      rcases u5 with hF | ⟨m2, p2, w1, w2, w3, w4, w5⟩
      · have hFn := hF.n
        obtain ⟨qf, hU, hq⟩ := hF
        obtain ⟨μ3, y1, y2, y3⟩ := un_put hU (-g)
        rw [y1, bd0_s]
        refine ⟨v2, μ3, ν2, ?_, ?_, C2.trans y3, M2, Or.inl ⟨qf, y2, hq⟩⟩
        · show Bo_X5_readTerm_7 _ _ _ _ _ = _
          unfold Bo_X5_readTerm_7
          rw [if_neg (show ¬ (160 : Int32) ≤ nI (c + 1) by rw [show (160 : Int32) = nI 160 from rfl]; exact nI_ge (by omega) (by omega)), un_sound y2, bd_s, if_pos rfl]
        · show Bo_X12_term_5 _ _ _ _ = _
          unfold Bo_X12_term_5
          rw [gI_d ν2 78 11, if_neg hFn]
      · obtain ⟨y1, y2, y3, y4, y5⟩ := w3.put (-g)
        rw [y1, bd0_s]
        have hc6 : ∀ j, j < m → μ2.1 6 j = μ.1 6 j := fun j hj => by rw [w4 j hj, sI_n _ _ _ (by decide), t6]
        have V2 : EV ν (sI (sI μ2 6 m2 (-g)) 5 4 (nI (m2 + 1))) m0 (m2 + 1) v2 := by
          refine EV.bin (x := v) (y := w) (c := -g) hm0 w1 hV (fun j hj => by rw [y5 j (by omega)]; exact hc6 j hj) ?_ y4 hok hop
          exact (EV.nu (t5.trans (RMR.s (Or.inl rfl))) w5).mu (fun j hj => y5 j (by omega))
        obtain ⟨v', μ', ν', z1, z2, z3, z4, z5⟩ := ih (c + 1) (m2 + 1) p2 (fu + 1) (fu2 + 1) v2 _ _ (by omega) (by omega) (by omega) (by omega) (by omega) y2 (V2.nu2 M2)
        refine ⟨v', μ', ν', z1, z2, (C2.trans y3).trans z3, M2.trans z4, ?_⟩
        rcases z5 with z5 | ⟨m', p3, k1, k2, k3, k4, k5⟩
        · exact Or.inl z5
        · exact Or.inr ⟨m', p3, by omega, by omega, k3, fun j hj => by rw [k4 j (by omega), y5 j (by omega), hc6 j hj], k5.nu M2⟩
    · rw [if_neg (fun e => qq (Or.inl e)), if_neg (fun e => qq (Or.inr e)), if_neg (fun e => qq (Or.inl e)), if_neg (fun e => qq (Or.inr e))]
      exact ⟨v, μ1, ν1, rfl, rfl, t4, t5, Or.inr ⟨m, p', Nat.le_refl _, t0, t3, fun j _ => by rw [t6], hV.mu (fun j _ => by rw [t6])⟩⟩
theorem tmq_e {B b0 n d N M : Nat} (hE : VK B b0 n d (RD N 6 (nI d)) (MD M 0 0 0)) : VK B b0 n d (RD (N + 1) 5 (nI d)) (MD (M + 1) 1 0 0) := by
  intro k m p μ ν hR
  show ∃ (v : Int32) (μ' ν' : gs_M), O_X5_readTerm (RD N) (nI d) μ = some μ' ∧ O_X12_term (MD M) ν = some (v, ν') ∧ _
  unfold O_X5_readTerm O_X12_term
  obtain ⟨v, μ1, ν1, t1, t2, t3, t4, t5⟩ := hE k m p μ ν hR
  rw [t1, bd0_s, t2, bd_s]
  rcases t5 with hF | ⟨m1, p1, u1, u2, u3, u4, u5⟩
  · have hFn := hF.n
    have hF' := hF
    obtain ⟨qf, hU, hq⟩ := hF
    refine ⟨v, μ1, ν1, ?_, ?_, t3, t4, Or.inl hF'⟩
    · show Bo_X5_readTerm_7 _ _ _ _ _ = _
      unfold Bo_X5_readTerm_7
      rw [if_neg (by decide), un_sound hU, bd_s, if_pos rfl]
    · show Bo_X12_term_5 _ _ _ _ = _
      unfold Bo_X12_term_5
      rw [gI_d ν1 78 11, if_neg hFn]
  · have n160 := u3.1.1
    obtain ⟨v', μ', ν', z1, z2, z3, z4, z5⟩ := tm_l hE (m0 := m) n 0 m1 p1 4096 4096 v μ1 ν1 (by omega) (by omega) (by omega) (by omega) u1 u3 (u5.nu2 t4)
    refine ⟨v', μ', ν', z1, z2, t3.trans z3, t4.trans z4, ?_⟩
    rcases z5 with z5 | ⟨m', p', k1, k2, k3, k4, k5⟩
    · exact Or.inl z5
    · exact Or.inr ⟨m', p', by omega, by omega, k3, fun j hj => by rw [k4 j (by omega), u4 j hj], k5.nu t4⟩

theorem sm_l {B b0 n d k m0 : Nat} {E : Nat → Int32 → gs_M → Option gs_M} {F : Nat → Int32 → Int32 → gs_M → Option (Int32 × gs_M)} (hE : VK B b0 n d (E 5 (nI d)) (F 1 0 0)) : ∀ (i c m p fu fu2 : Nat) (v : Int32) (μ ν : gs_M), n - p ≤ i → i < fu → i < fu2 → c < p → m0 ≤ m → RY B b0 n d k m p μ ν → EV ν μ m0 m v → ∃ (v' : Int32) (μ' ν' : gs_M), L_X5_readSum_7 E fu (nI d) (nI c) μ = some μ' ∧ L_X12_sum_5 F fu2 v ν = some (v', ν') ∧ RF μ μ' ∧ RMR ν ν' ∧ (FLT n μ' ν' ∨ ∃ m' p', m ≤ m' ∧ p ≤ p' ∧ RY B b0 n d k m' p' μ' ν' ∧ (∀ j, j < m → μ'.1 6 j = μ.1 6 j) ∧ EV ν μ' m0 m' v') := by
  intro i
  induction i with
  | zero =>
    intro c m p fu fu2 v μ ν hi hf hf2 hc hm0 hR hV
    obtain ⟨fu, rfl⟩ : ∃ m, fu = m + 1 := ⟨fu - 1, by omega⟩
    obtain ⟨fu2, rfl⟩ : ∃ m, fu2 = m + 1 := ⟨fu2 - 1, by omega⟩
    obtain ⟨g, p', μ1, ν1, t0, t1, t2, t3, t4, t5, t6, t7, t8, t9⟩ := hR.nx
    have n160 := hR.1.1
    have pn := hR.2.1.1
    have s1 := hR.2.2.1
    have s2 := hR.2.2.2.1
    have hg : g = -1 := by
      rcases t9 with ⟨-, e⟩ | ⟨e, -⟩
      · exact e
      · omega
    refine ⟨v, μ1, ν1, ?_, ?_, t4, t5, Or.inr ⟨m, p', Nat.le_refl _, t0, t3, fun j _ => by rw [t6], hV.mu (fun j _ => by rw [t6])⟩⟩
    · show Bo_X5_readSum_7 _ _ _ _ _ = _
      unfold Bo_X5_readSum_7
      rw [if_neg (show ¬ (160 : Int32) ≤ nI c by rw [show (160 : Int32) = nI 160 from rfl]; exact nI_ge (by omega) (by omega)), is_e, if_pos s1, bd_s, if_neg z10, t1, bd_s, if_neg (by rw [hg]; decide), t7, bd_s, if_neg (by rw [hg]; decide)]
    · show Bo_X12_sum_5 _ _ _ _ = _
      unfold Bo_X12_sum_5
      rw [gI_d ν 78 11, if_pos s2, t2, bd_s, if_neg (by rw [hg]; decide), t8, bd_s, if_neg (by rw [hg]; decide)]
  | succ i ih =>
    intro c m p fu fu2 v μ ν hi hf hf2 hc hm0 hR hV
    obtain ⟨fu, rfl⟩ : ∃ m, fu = m + 1 := ⟨fu - 1, by omega⟩
    obtain ⟨fu2, rfl⟩ : ∃ m, fu2 = m + 1 := ⟨fu2 - 1, by omega⟩
    obtain ⟨g, p', μ1, ν1, t0, t1, t2, t3, t4, t5, t6, t7, t8, t9⟩ := hR.nx
    have n160 := hR.1.1
    have pn := hR.2.1.1
    have s1 := hR.2.2.1
    have s2 := hR.2.2.2.1
    have A1 := t3.2.1
    have hmp := t3.2.2.2.2.2.1
    have c1 : L_X5_readSum_7 E (fu + 1) (nI d) (nI c) μ = if g = 43 then B_X5_readSum_39 E (L_X5_readSum_7 E fu) (nI d) (nI c) μ1 else if g = 45 then B_X5_readSum_39 E (L_X5_readSum_7 E fu) (nI d) (nI c) μ1 else some μ1 := by
      show Bo_X5_readSum_7 _ _ _ _ _ = _
      unfold Bo_X5_readSum_7
      rw [if_neg (show ¬ (160 : Int32) ≤ nI c by rw [show (160 : Int32) = nI 160 from rfl]; exact nI_ge (by omega) (by omega)), is_e, if_pos s1, bd_s, if_neg z10, t1, bd_s, t7, bd_s]
    have m1 : L_X12_sum_5 F (fu2 + 1) v ν = if g = 43 then B_X12_sum_45 F (L_X12_sum_5 F fu2) v 1 ν1 else if g = 45 then B_X12_sum_45 F (L_X12_sum_5 F fu2) v 0 ν1 else some (v, ν1) := by
      show Bo_X12_sum_5 _ _ _ _ = _
      unfold Bo_X12_sum_5 B_X12_sum_31
      rw [gI_d ν 78 11, if_pos s2, t2, bd_s, t8, bd_s, bd_s, t8, bd_s]
      by_cases q : g = 43
      · rw [if_pos q, if_pos q, if_pos q]
      · rw [if_neg q, if_neg q, if_neg q]
    rw [c1, m1]
    by_cases qq : g = 43 ∨ g = 45
    · have hp : p' < n := by
        rcases t9 with ⟨-, e⟩ | ⟨e, -⟩
        · exfalso
          rw [e] at qq
          revert qq
          decide
        · exact e
      obtain ⟨w, μ2, ν2, u1, u2, u3, u4, u5⟩ := hE (k + 1) m (p' + 1) _ _ (t3.mv (p' := p' + 1) (k' := k + 1) (by omega) (by omega))
      obtain ⟨x1, x2⟩ := sm_45 (q := L_X12_sum_5 F fu2) (x := v) A1.2.2 u2
      rw [x1, x2]
      have cB : B_X5_readSum_39 E (L_X5_readSum_7 E fu) (nI d) (nI c) μ1 = bd0 (D_X5_put (-g) μ2) (fun u8 => L_X5_readSum_7 E fu (nI d) (nI (c + 1)) u8) := by
        unfold B_X5_readSum_39
        rw [t7, bd_s, lt1, gI_d μ1 5 1, A1.2.1, nI_1, u1, bd0_s, nI_1]
      rw [cB]
      have hvv : ∃ v2 : Int32, (if g = 43 then L_X12_sum_5 F fu2 (wN (Int32.toInt64 v + Int32.toInt64 w)) ν2 else if g = 45 then L_X12_sum_5 F fu2 (wN (Int32.toInt64 v - Int32.toInt64 w)) ν2 else some (v, ν1)) = L_X12_sum_5 F fu2 v2 ν2 ∧ (LB ν → BD v → BD w → BD v2 ∧ ∀ s, run1 (Lm ν) (-g) (w :: v :: s) = v2 :: s) := by
        by_cases q : g = 43
        · refine ⟨wN (Int32.toInt64 v + Int32.toInt64 w), by rw [if_pos q], fun _ h1 h2 => ⟨wN_b _, fun s => ?_⟩⟩
          rw [q, show (43 : Int32) = nI 43 from rfl, r1_b (by omega), show nI 43 = (43 : Int32) from rfl, ar_add h1 h2]
        · have q2 : g = 45 := by rcases qq with e | e; exact absurd e q; exact e
          refine ⟨wN (Int32.toInt64 v - Int32.toInt64 w), by rw [if_neg q, if_pos q2], fun _ h1 h2 => ⟨wN_b _, fun s => ?_⟩⟩
          rw [q2, show (45 : Int32) = nI 45 from rfl, r1_b (by omega), show nI 45 = (45 : Int32) from rfl, ar_sub h1 h2]
      obtain ⟨v2, hv2, hop⟩ := hvv
      have hok : OKc (-g) := by
        rcases qq with e | e
        · rw [e, show (43 : Int32) = nI 43 from rfl]; exact okc_b (by omega)
        · rw [e, show (45 : Int32) = nI 45 from rfl]; exact okc_b (by omega)
      rw [hv2]
      have cC : (if g = 43 then bd0 (D_X5_put (-g) μ2) (fun u8 => L_X5_readSum_7 E fu (nI d) (nI (c + 1)) u8) else if g = 45 then bd0 (D_X5_put (-g) μ2) (fun u8 => L_X5_readSum_7 E fu (nI d) (nI (c + 1)) u8) else some μ1) = bd0 (D_X5_put (-g) μ2) (fun u8 => L_X5_readSum_7 E fu (nI d) (nI (c + 1)) u8) := by
        by_cases q : g = 43
        · rw [if_pos q]
        · have q2 : g = 45 := by rcases qq with e | e; exact absurd e q; exact e
          rw [if_neg q, if_pos q2]
      rw [cC]
      obtain ⟨fu, rfl⟩ : ∃ m, fu = m + 1 := ⟨fu - 1, by omega⟩
      obtain ⟨fu2, rfl⟩ : ∃ m, fu2 = m + 1 := ⟨fu2 - 1, by omega⟩
      have M2 : RMR ν ν2 := t5.trans ((RMR.s (Or.inl rfl)).trans u4)
      have C2 : RF μ μ2 := t4.trans (RF.s5.trans u3)
      rcases u5 with hF | ⟨m2, p2, w1, w2, w3, w4, w5⟩
      · have hFn := hF.n
        obtain ⟨qf, hU, hq⟩ := hF
        obtain ⟨μ3, y1, y2, y3⟩ := un_put hU (-g)
        rw [y1, bd0_s]
        refine ⟨v2, μ3, ν2, ?_, ?_, C2.trans y3, M2, Or.inl ⟨qf, y2, hq⟩⟩
        · show Bo_X5_readSum_7 _ _ _ _ _ = _
          unfold Bo_X5_readSum_7
          rw [if_neg (show ¬ (160 : Int32) ≤ nI (c + 1) by rw [show (160 : Int32) = nI 160 from rfl]; exact nI_ge (by omega) (by omega)), un_sound y2, bd_s, if_pos rfl]
        · show Bo_X12_sum_5 _ _ _ _ = _
          unfold Bo_X12_sum_5
          rw [gI_d ν2 78 11, if_neg hFn]
      · obtain ⟨y1, y2, y3, y4, y5⟩ := w3.put (-g)
        rw [y1, bd0_s]
        have hc6 : ∀ j, j < m → μ2.1 6 j = μ.1 6 j := fun j hj => by rw [w4 j hj, sI_n _ _ _ (by decide), t6]
        have V2 : EV ν (sI (sI μ2 6 m2 (-g)) 5 4 (nI (m2 + 1))) m0 (m2 + 1) v2 := by
          refine EV.bin (x := v) (y := w) (c := -g) hm0 w1 hV (fun j hj => by rw [y5 j (by omega)]; exact hc6 j hj) ?_ y4 hok hop
          exact (EV.nu (t5.trans (RMR.s (Or.inl rfl))) w5).mu (fun j hj => y5 j (by omega))
        obtain ⟨v', μ', ν', z1, z2, z3, z4, z5⟩ := ih (c + 1) (m2 + 1) p2 (fu + 1) (fu2 + 1) v2 _ _ (by omega) (by omega) (by omega) (by omega) (by omega) y2 (V2.nu2 M2)
        refine ⟨v', μ', ν', z1, z2, (C2.trans y3).trans z3, M2.trans z4, ?_⟩
        rcases z5 with z5 | ⟨m', p3, k1, k2, k3, k4, k5⟩
        · exact Or.inl z5
        · exact Or.inr ⟨m', p3, by omega, by omega, k3, fun j hj => by rw [k4 j (by omega), y5 j (by omega), hc6 j hj], k5.nu M2⟩
    · rw [if_neg (fun e => qq (Or.inl e)), if_neg (fun e => qq (Or.inr e)), if_neg (fun e => qq (Or.inl e)), if_neg (fun e => qq (Or.inr e))]
      exact ⟨v, μ1, ν1, rfl, rfl, t4, t5, Or.inr ⟨m, p', Nat.le_refl _, t0, t3, fun j _ => by rw [t6], hV.mu (fun j _ => by rw [t6])⟩⟩
theorem smq_e {B b0 n d N M : Nat} (hE : VK B b0 n d (RD N 5 (nI d)) (MD M 1 0 0)) : VK B b0 n d (RD (N + 1) 4 (nI d)) (MD (M + 1) 2 0 0) := by
  intro k m p μ ν hR
  show ∃ (v : Int32) (μ' ν' : gs_M), O_X5_readSum (RD N) (nI d) μ = some μ' ∧ O_X12_sum (MD M) ν = some (v, ν') ∧ _
  unfold O_X5_readSum O_X12_sum
  obtain ⟨v, μ1, ν1, t1, t2, t3, t4, t5⟩ := hE k m p μ ν hR
  rw [t1, bd0_s, t2, bd_s]
  rcases t5 with hF | ⟨m1, p1, u1, u2, u3, u4, u5⟩
  · have hFn := hF.n
    have hF' := hF
    obtain ⟨qf, hU, hq⟩ := hF
    refine ⟨v, μ1, ν1, ?_, ?_, t3, t4, Or.inl hF'⟩
    · show Bo_X5_readSum_7 _ _ _ _ _ = _
      unfold Bo_X5_readSum_7
      rw [if_neg (by decide), un_sound hU, bd_s, if_pos rfl]
    · show Bo_X12_sum_5 _ _ _ _ = _
      unfold Bo_X12_sum_5
      rw [gI_d ν1 78 11, if_neg hFn]
  · have n160 := u3.1.1
    obtain ⟨v', μ', ν', z1, z2, z3, z4, z5⟩ := sm_l hE (m0 := m) n 0 m1 p1 4096 4096 v μ1 ν1 (by omega) (by omega) (by omega) (by omega) u1 u3 (u5.nu2 t4)
    refine ⟨v', μ', ν', z1, z2, t3.trans z3, t4.trans z4, ?_⟩
    rcases z5 with z5 | ⟨m', p', k1, k2, k3, k4, k5⟩
    · exact Or.inl z5
    · exact Or.inr ⟨m', p', by omega, by omega, k3, fun j hj => by rw [k4 j (by omega), u4 j hj], k5.nu t4⟩

theorem vs_e {B b0 n : Nat} : ∀ (e d N M : Nat), e + d = 6 → 3 * e + 3 ≤ N → 3 * e + 3 ≤ M → VK B b0 n d (RD N 4 (nI d)) (MD M 2 0 0) := by
  intro e
  induction e with
  | zero =>
    intro d N M hd hN hM
    obtain ⟨N, rfl⟩ : ∃ m, N = m + 1 + 1 + 1 := ⟨N - 3, by omega⟩
    obtain ⟨M, rfl⟩ : ∃ m, M = m + 1 + 1 + 1 := ⟨M - 3, by omega⟩
    exact smq_e (tmq_e (at_e (by omega) (fun h => by omega)))
  | succ e ih =>
    intro d N M hd hN hM
    obtain ⟨N, rfl⟩ : ∃ m, N = m + 1 + 1 + 1 := ⟨N - 3, by omega⟩
    obtain ⟨M, rfl⟩ : ∃ m, M = m + 1 + 1 + 1 := ⟨M - 3, by omega⟩
    exact smq_e (tmq_e (at_e (by omega) (fun h => ih (d + 1) N M (by omega) (by omega) (by omega))))
