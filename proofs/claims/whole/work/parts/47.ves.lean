/-! vessels: class and reference -/
theorem HU.go {u u' w w' : Nat → Int32} {k : Nat} (h : HU u w k) (hu : ∀ i, i < 12 → u' i = u i) (hw : ∀ i, i < 12 → w' (28 + 12 * k + i) = w (28 + 12 * k + i)) : HU u' w' k := fun i hi => by
  rw [hu i hi, hw i hi]; exact h i hi
def VH (μ : gs_M) (v : Nat) (w p : Nat → Int32) (st B k : Nat) : Prop := (∃ c o, o < st ∧ HF (μ.1 (v + 2 + 2 * k)) w p k c o ∧ HU (μ.1 (v + 2 + 2 * k + 1)) w k) ∧ 0 ≤ (w (7 * k + 6)).toInt ∧ (w (7 * k + 6)).toInt ≤ B
def VC (μ : gs_M) (v : Nat) (w p : Nat → Int32) (st n B : Nat) : Prop := 1 ≤ n ∧ n ≤ 4 ∧ μ.1 v 1 = nI n ∧ w 76 = nI n ∧ w 80 = 1 ∧ ∀ k, k < n → VH μ v w p st B k
def FH (v : Nat) (μ μ' : gs_M) : Prop := (∀ b, b < v + 2 ∨ v + 10 ≤ b → μ'.1 b = μ.1 b) ∧ μ'.2 = μ.2 ∧ ∀ k, k < 4 → μ'.1 (v + 2 + 2 * k) 1 = μ.1 (v + 2 + 2 * k) 1
def FS (ν ν' : gs_M) : Prop := (∀ b, b ≠ 78 → b ≠ 89 → ν'.1 b = ν.1 b) ∧ (∀ j, j ≠ 37 → j ≠ 38 → ν'.1 78 j = ν.1 78 j) ∧ (∀ j, 76 ≤ j → ν'.1 89 j = ν.1 89 j) ∧ ν'.2 = ν.2
theorem FH.refl {v : Nat} {μ : gs_M} : FH v μ μ := ⟨fun _ _ => rfl, rfl, fun _ _ => rfl⟩
theorem FS.refl {μ : gs_M} : FS μ μ := ⟨fun _ _ _ => rfl, fun _ _ _ => rfl, fun _ _ => rfl, rfl⟩
theorem FH.trans {v : Nat} {μ0 μ1 μ2 : gs_M} (h : FH v μ0 μ1) (g : FH v μ1 μ2) : FH v μ0 μ2 := ⟨fun b hb => (g.1 b hb).trans (h.1 b hb), g.2.1.trans h.2.1, fun k hk => (g.2.2 k hk).trans (h.2.2 k hk)⟩
theorem FS.trans {μ0 μ1 μ2 : gs_M} (h : FS μ0 μ1) (g : FS μ1 μ2) : FS μ0 μ2 := ⟨fun b h1 h2 => (g.1 b h1 h2).trans (h.1 b h1 h2), fun b h1 h2 => (g.2.1 b h1 h2).trans (h.2.1 b h1 h2), fun j hj => (g.2.2.1 j hj).trans (h.2.2.1 j hj), g.2.2.2.trans h.2.2.2⟩
/-- what went, summed over the holds -/
def gR (j : Nat) (μ : gs_M) (v : Nat) : Nat → Int32
  | 0 => 0
  | k + 1 => gR j μ v k + μ.1 (v + 2 + 2 * k) j
theorem gR_same {j v : Nat} {μ μ' : gs_M} : ∀ {n : Nat}, (∀ k, k < n → μ'.1 (v + 2 + 2 * k) j = μ.1 (v + 2 + 2 * k) j) → gR j μ' v n = gR j μ v n
  | 0, _ => rfl
  | n + 1, h => by
    show gR j μ' v n + _ = gR j μ v n + _
    rw [gR_same (fun k hk => h k (by omega)), h n (by omega)]
theorem gR_one {j v k : Nat} {μ μ' : gs_M} : ∀ {n : Nat}, k < n → (∀ i, i ≠ k → μ'.1 (v + 2 + 2 * i) j = μ.1 (v + 2 + 2 * i) j) → gR j μ' v n = gR j μ v n + (μ'.1 (v + 2 + 2 * k) j - μ.1 (v + 2 + 2 * k) j)
  | 0, hk, _ => absurd hk (by omega)
  | n + 1, hk, h => by
    show gR j μ' v n + _ = gR j μ v n + _ + _
    by_cases q : k = n
    · subst q
      rw [gR_same (fun i hi => h i (by omega))]
      grind
    · rw [gR_one (show k < n by omega) h, h n (fun e => q e.symm)]
      grind
def GG (μ : gs_M) (v : Nat) (ν : gs_M) (n : Nat) : Prop := ν.1 78 37 = gR 6 μ v n ∧ ν.1 78 38 = gR 7 μ v n
/-- a hold's counts -/
def HB (T : Nat) (μ : gs_M) (v k : Nat) : Prop := ∃ t1 t2 : Nat, t1 ≤ T ∧ t2 ≤ T ∧ μ.1 (v + 2 + 2 * k) 6 = nI t1 ∧ μ.1 (v + 2 + 2 * k) 7 = nI t2
theorem gR_b {j v T : Nat} {μ : gs_M} : ∀ {n : Nat}, (∀ k, k < n → ∃ t, t ≤ T ∧ μ.1 (v + 2 + 2 * k) j = nI t) → ∃ t, t ≤ n * T ∧ gR j μ v n = nI t
  | 0, _ => ⟨0, by omega, rfl⟩
  | n + 1, h => by
    obtain ⟨t, h1, h2⟩ := gR_b (n := n) (fun k hk => h k (by omega))
    obtain ⟨u, h3, h4⟩ := h n (by omega)
    refine ⟨t + u, by rw [Nat.succ_mul]; omega, ?_⟩
    show gR j μ v n + _ = _
    rw [h2, h4, nI_add]
theorem i_as (a b : Int32) : a + (b - a) = b := by grind
/-- a hold's rest among the others -/
theorem vrest_e {μ ν : gs_M} {v st n B k : Nat} {y : Int32} (hV : VC μ v (ν.1 89) (ν.1 83) st n B) (hk : k < n) : ∃ (μ' ν' : gs_M), D_X1_restWith (v + 2 + 2 * k) (hsN y) μ = some μ' ∧ D_X12_rests (nI k) y ν = some ν' ∧ VC μ' v (ν'.1 89) (ν'.1 83) st n B ∧ FH v μ μ' ∧ FS ν ν' ∧ (GG μ v ν n → GG μ' v ν' n) ∧ (∀ i j, i < 4 → i ≠ k → μ'.1 (v + 2 + 2 * i) j = μ.1 (v + 2 + 2 * i) j) ∧ (∀ T, HB T μ v k → HB (T + 7920) μ' v k) := by
  obtain ⟨n1, n4, hs, hw, hl, hH⟩ := hV
  obtain ⟨⟨c, o, ho, hF, hU⟩, hb⟩ := hH k hk
  obtain ⟨μ', ν', t1, t2, ⟨hF', hU'⟩, t4, t5, t6⟩ := rest_e (y := y) (show k < 4 by omega) (show HC μ ν (v + 2 + 2 * k) k c o from ⟨hF, hU⟩)
  have hw28 : ∀ j, j < 28 → ν'.1 89 j = ν.1 89 j := fun j hj => t5.2.2.1 j (Or.inl (by omega))
  have hw76 : ∀ j, 76 ≤ j → ν'.1 89 j = ν.1 89 j := fun j hj => t5.2.2.1 j (Or.inr (by omega))
  have hp : ν'.1 83 = ν.1 83 := t5.1 83 (by decide) (by decide)
  have hoth : ∀ i, i ≠ k → μ'.1 (v + 2 + 2 * i) = μ.1 (v + 2 + 2 * i) := fun i hi => t4.1 _ (by omega) (by omega)
  refine ⟨μ', ν', t1, t2, ⟨n1, n4, ?_, by rw [hw76 76 (by omega)]; exact hw, by rw [hw76 80 (by omega)]; exact hl, fun i hi => ?_⟩, ⟨fun b hb => t4.1 b (by omega) (by omega), t4.2.2, fun i hi => by
    by_cases q : i = k
    · subst q; exact t4.2.1 1 (by decide) (by decide)
    · rw [hoth i q]⟩, ⟨t5.1, t5.2.1, hw76, t5.2.2.2⟩, ?_, fun i j _ hi => by rw [hoth i hi], ?_⟩
  · rw [t4.1 v (by omega) (by omega)]; exact hs
  · refine ⟨?_, by rw [hw28 _ (by omega)]; exact (hH i hi).2⟩
    by_cases q : i = k
    · subst q
      exact ⟨c, o, ho, hF', hU'⟩
    · obtain ⟨⟨c2, o2, ho2, hF2, hU2⟩, -⟩ := hH i hi
      refine ⟨c2, o2, ho2, ?_, ?_⟩
      · rw [hp]
        exact hF2.go (by omega) (fun j _ _ => by rw [hoth i q]) hw28
      · refine hU2.go (fun j _ => by rw [t4.1 _ (by omega) (by omega)]) (fun j hj => t5.2.2.1 _ (by omega))
  · rintro ⟨g1, g2⟩
    obtain ⟨s1, s2, -⟩ := t6
    refine ⟨?_, ?_⟩
    · have key := gR_one (j := 6) (v := v) (μ := μ) (μ' := μ') hk (fun i hi => by rw [hoth i hi])
      rw [key, ← s1, ← g1]
      exact (i_as _ _).symm
    · have key := gR_one (j := 7) (v := v) (μ := μ) (μ' := μ') hk (fun i hi => by rw [hoth i hi])
      rw [key, ← s2, ← g2]
      exact (i_as _ _).symm
  · rintro T ⟨x1, x2, q1, q2, q3, q4⟩
    obtain ⟨-, -, -, y1, y2, r1, r2, r3, r4⟩ := t6
    exact ⟨x1 + y1, x2 + y2, by omega, by omega, by rw [r3, q3, nI_add], by rw [r4, q4, nI_add]⟩
/-- all holds rest; the reference's loops are of several shapes -/
theorem vall_e {v st n B : Nat} {y : Int32} {α : Type} (F : Nat → Int32 → gs_M → Option α) (hF : ∀ (fu k : Nat) (ν : gs_M), k < n → ν.1 89 76 = nI n → F (fu + 1) (nI k) ν = bd0 (D_X12_rests (nI k) y ν) (fun u => F fu (nI (k + 1)) u)) :
    ∀ (m k fu fu2 : Nat) (μ ν : gs_M), k + m = n → m < fu → VC μ v (ν.1 89) (ν.1 83) st n B → ∃ (μ' ν' : gs_M), L_X10_restAll_7 fu v (hsN y) (nI k) μ = some μ' ∧ F (fu2 + m) (nI k) ν = F fu2 (nI n) ν' ∧ VC μ' v (ν'.1 89) (ν'.1 83) st n B ∧ FH v μ μ' ∧ FS ν ν' ∧ (GG μ v ν n → GG μ' v ν' n) ∧ (∀ i j, i < k → μ'.1 (v + 2 + 2 * i) j = μ.1 (v + 2 + 2 * i) j) ∧ (∀ T, (∀ i, k ≤ i → i < n → HB T μ v i) → ∀ i, k ≤ i → i < n → HB (T + 7920) μ' v i) := by
  intro m
  induction m with
  | zero =>
    intro k fu fu2 μ ν hm hf hV
    obtain ⟨fu, rfl⟩ : ∃ m, fu = m + 1 := ⟨fu - 1, by omega⟩
    obtain rfl : k = n := by omega
    refine ⟨μ, ν, ?_, rfl, hV, FH.refl, FS.refl, id, fun _ _ _ => rfl, fun T _ i h1 h2 => absurd h1 (by omega)⟩
    show Bo_X10_restAll_7 _ _ _ _ _ = _
    unfold Bo_X10_restAll_7
    rw [gI_d, hV.2.2.1, if_pos (nI_le (by omega) (by have := hV.2.1; omega))]
  | succ m ih =>
    intro k fu fu2 μ ν hm hf hV
    obtain ⟨fu, rfl⟩ : ∃ m, fu = m + 1 := ⟨fu - 1, by omega⟩
    have hn4 := hV.2.1
    obtain ⟨μ1, ν1, s1, s2, s3, s4, s5, s6, s7, s8⟩ := vrest_e (y := y) hV (show k < n by omega)
    obtain ⟨μ', ν', t1, t2, t3, t4, t5, t6, t7, t8⟩ := ih (k + 1) fu fu2 μ1 ν1 (by omega) (by omega) s3
    refine ⟨μ', ν', ?_, ?_, t3, s4.trans t4, s5.trans t5, fun h => t6 (s6 h), fun i j hi => (t7 i j (by omega)).trans (s7 i j (by omega) (by omega)), fun T hT i h1 h2 => ?_⟩
    · show Bo_X10_restAll_7 _ _ _ _ _ = _
      unfold Bo_X10_restAll_7
      rw [gI_d, hV.2.2.1, if_neg (nI_ge (by omega) (by omega)), inb_n (show k < 4 by omega) (by omega), ck_t, nI_clamp (by omega), s1, bd0_s, nI_1]
      exact t1
    · rw [show fu2 + (m + 1) = (fu2 + m) + 1 by omega, hF _ _ _ (by omega) hV.2.2.2.1, s2, bd0_s]
      exact t2
    · by_cases q : i = k
      · subst q
        obtain ⟨x1, x2, q1, q2, q3, q4⟩ := s8 T (hT i (by omega) h2)
        exact ⟨x1, x2, q1, q2, by rw [t7 i _ (by omega)]; exact q3, by rw [t7 i _ (by omega)]; exact q4⟩
      · refine t8 T (fun i' h1' h2' => ?_) i (by omega) h2
        obtain ⟨x1, x2, q1, q2, q3, q4⟩ := hT i' (by omega) h2'
        exact ⟨x1, x2, q1, q2, by rw [s7 i' _ (by omega) (by omega)]; exact q3, by rw [s7 i' _ (by omega) (by omega)]; exact q4⟩
/-! moments, lean -/
theorem mo_loop {μ ν : gs_M} {a k c o : Nat} (hk : k < 4) (hC : HC μ ν a k c o) : ∀ (m i fu fu2 : Nat) (x1 x2 : Int32), i + m = c → m < fu → m < fu2 → x2 = x1 * μ.1 a 13 → -660 * (i : Int) ≤ x1.toInt → x1.toInt ≤ 660 * (i : Int) → ∃ r : Int32, L_X1_moment_4 fu a x1 (nI i) μ = some (r, μ) ∧ L_X12_momentOf_4 fu2 (nI k) x2 (nI i) ν = some (r, ν) ∧ -71280 ≤ r.toInt ∧ r.toInt ≤ 71280 := by
  obtain ⟨⟨hc2, hc12, ho, f1, w0, w2, f8, f2, f3, f4, f5, ⟨p9, p10, p11, p12, p13⟩, b8, b2, b3, b4, b9, b10, b13⟩, hU⟩ := hC
  intro m
  induction m with
  | zero =>
    intro i fu fu2 x1 x2 hi hf hf2 hx l1 l2
    obtain ⟨fu, rfl⟩ : ∃ m, fu = m + 1 := ⟨fu - 1, by omega⟩
    obtain ⟨fu2, rfl⟩ : ∃ m, fu2 = m + 1 := ⟨fu2 - 1, by omega⟩
    have hb : -71280 ≤ (x1 * μ.1 a 13).toInt ∧ (x1 * μ.1 a 13).toInt ≤ 71280 := by
      have q1 : x1.toInt * (μ.1 a 13).toInt ≤ 7920 * 9 := by
        rcases Int.le_total 0 x1.toInt with h | h
        · exact Int.mul_le_mul (by omega) b13.2 b13.1 (by omega)
        · have q : x1.toInt * (μ.1 a 13).toInt ≤ 0 := Int.mul_nonpos_of_nonpos_of_nonneg h b13.1
          omega
      have q2 : -(7920 * 9) ≤ x1.toInt * (μ.1 a 13).toInt := by
        rcases Int.le_total 0 x1.toInt with h | h
        · have q : 0 ≤ x1.toInt * (μ.1 a 13).toInt := Int.mul_nonneg h b13.1
          omega
        · have q : (-x1.toInt) * (μ.1 a 13).toInt ≤ 7920 * 9 := Int.mul_le_mul (by omega) b13.2 b13.1 (by omega)
          rw [Int.neg_mul] at q
          omega
      rw [ti_mul (by omega) (by omega)]
      omega
    refine ⟨x1 * μ.1 a 13, ?_, ?_, hb⟩
    · show Bo_X1_moment_4 _ _ _ _ _ = _
      unfold Bo_X1_moment_4
      rw [gI_d, f1, if_pos (nI_le (by omega) (by omega)), gI_d]
    · show Bo_X12_momentOf_4 _ _ _ _ _ = _
      unfold Bo_X12_momentOf_4
      rw [mof_0 hk, bd_s, w0, if_pos (nI_le (by omega) (by omega)), hx]
  | succ m ih =>
    intro i fu fu2 x1 x2 hi hf hf2 hx l1 l2
    obtain ⟨fu, rfl⟩ : ∃ m, fu = m + 1 := ⟨fu - 1, by omega⟩
    obtain ⟨fu2, rfl⟩ : ∃ m, fu2 = m + 1 := ⟨fu2 - 1, by omega⟩
    obtain ⟨u0, u1, u2⟩ := hU i (by omega)
    have hz : (2 * nI i + 1 - nI c).toInt = 2 * (i : Int) + 1 - c := by
      rw [show (2 : Int32) = nI 2 from rfl, pk_mul, nI_1, pk_sub_toInt (by omega) (by omega)]
      omega
    have hz2 : (μ.1 (a + 1) i * (2 * nI i + 1 - nI c)).toInt = (μ.1 (a + 1) i).toInt * (2 * (i : Int) + 1 - c) ∧ -660 ≤ (μ.1 (a + 1) i).toInt * (2 * (i : Int) + 1 - c) ∧ (μ.1 (a + 1) i).toInt * (2 * (i : Int) + 1 - c) ≤ 660 := by
      have q1 : (μ.1 (a + 1) i).toInt * (2 * (i : Int) + 1 - c) ≤ 60 * 11 := by
        rcases Int.le_total 0 (2 * (i : Int) + 1 - c) with h | h
        · exact Int.mul_le_mul u2 (by omega) h (by omega)
        · have q : (μ.1 (a + 1) i).toInt * (2 * (i : Int) + 1 - c) ≤ 0 := Int.mul_nonpos_of_nonneg_of_nonpos u1 h
          omega
      have q2 : -(60 * 11) ≤ (μ.1 (a + 1) i).toInt * (2 * (i : Int) + 1 - c) := by
        rcases Int.le_total 0 (2 * (i : Int) + 1 - c) with h | h
        · have q : 0 ≤ (μ.1 (a + 1) i).toInt * (2 * (i : Int) + 1 - c) := Int.mul_nonneg u1 h
          omega
        · have q : (μ.1 (a + 1) i).toInt * (-(2 * (i : Int) + 1 - c)) ≤ 60 * 11 := Int.mul_le_mul u2 (by omega) (by omega) (by omega)
          rw [Int.mul_neg] at q
          omega
      refine ⟨?_, by omega, by omega⟩
      rw [ti_mul (by rw [hz]; omega) (by rw [hz]; omega), hz]
    obtain ⟨z1, z2, z3⟩ := hz2
    have hz4 : (x1 + μ.1 (a + 1) i * (2 * nI i + 1 - nI c)).toInt = x1.toInt + (μ.1 (a + 1) i).toInt * (2 * (i : Int) + 1 - c) := by
      rw [ti_add (by rw [z1]; omega) (by rw [z1]; omega), z1]
    obtain ⟨r, t1, t2, t3⟩ := ih (i + 1) fu fu2 (x1 + μ.1 (a + 1) i * (2 * nI i + 1 - nI c)) (x2 + μ.1 (a + 1) i * μ.1 a 13 * (2 * nI i + 1 - nI c)) (by omega) (by omega) (by omega) (by rw [hx]; grind) (by rw [hz4]; omega) (by rw [hz4]; omega)
    refine ⟨r, ?_, ?_, t3⟩
    · show Bo_X1_moment_4 _ _ _ _ _ = _
      unfold Bo_X1_moment_4
      simp only [gI_d, f1, if_neg (nI_ge (show i < c by omega) (by omega)), inb_n (show i < 12 by omega) (by omega), ck_t, nI_clamp (show i < 2 ^ 31 by omega), lt1, nI_1]
      exact t1
    · show Bo_X12_momentOf_4 _ _ _ _ _ = _
      unfold Bo_X12_momentOf_4
      simp only [mof_0 hk, bd_s, w0, if_neg (nI_ge (show i < c by omega) (by omega)), mun_e hk (show i < 12 by omega), mof_2 hk, w2, mpt_4 (show o < 7 by omega), lt1, nI_1, ← u0, ← p13]
      exact t2
theorem mom_e {μ ν : gs_M} {a k c o : Nat} (hk : k < 4) (hC : HC μ ν a k c o) : ∃ r : Int32, D_X1_moment a μ = some (r, μ) ∧ D_X12_momentOf (nI k) ν = some (r, ν) ∧ -71280 ≤ r.toInt ∧ r.toInt ≤ 71280 :=
  mo_loop hk hC c 0 4096 4096 0 0 (by omega) (by have := hC.1.2.1; omega) (by have := hC.1.2.1; omega) (by rw [Int32.zero_mul]) (by decide) (by decide)
theorem moms_loop {μ ν : gs_M} {v st n B : Nat} (hV : VC μ v (ν.1 89) (ν.1 83) st n B) : ∀ (m k fu fu2 : Nat) (x : Int32), k + m = n → m < fu → m < fu2 → -71280 * (k : Int) ≤ x.toInt → x.toInt ≤ 71280 * (k : Int) → ∃ r : Int32, L_X10_moments_4 fu v x (nI k) μ = some (r, μ) ∧ L_X12_moments_4 fu2 x (nI k) ν = some (r, ν) ∧ -285120 ≤ r.toInt ∧ r.toInt ≤ 285120 := by
  obtain ⟨n1, n4, hs, hw, hl, hH⟩ := hV
  intro m
  induction m with
  | zero =>
    intro k fu fu2 x hi hf hf2 l1 l2
    obtain ⟨fu, rfl⟩ : ∃ m, fu = m + 1 := ⟨fu - 1, by omega⟩
    obtain ⟨fu2, rfl⟩ : ∃ m, fu2 = m + 1 := ⟨fu2 - 1, by omega⟩
    refine ⟨x, ?_, ?_, by omega, by omega⟩
    · show Bo_X10_moments_4 _ _ _ _ _ = _
      unfold Bo_X10_moments_4
      rw [gI_d, hs, if_pos (nI_le (by omega) (by omega))]
    · show Bo_X12_moments_4 _ _ _ _ = _
      unfold Bo_X12_moments_4
      rw [mnw_76, bd_s, hw, if_pos (nI_le (by omega) (by omega))]
  | succ m ih =>
    intro k fu fu2 x hi hf hf2 l1 l2
    obtain ⟨fu, rfl⟩ : ∃ m, fu = m + 1 := ⟨fu - 1, by omega⟩
    obtain ⟨fu2, rfl⟩ : ∃ m, fu2 = m + 1 := ⟨fu2 - 1, by omega⟩
    obtain ⟨⟨c, o, ho, hF, hU⟩, -⟩ := hH k (by omega)
    obtain ⟨r, s1, s2, s3, s4⟩ := mom_e (show k < 4 by omega) (show HC μ ν (v + 2 + 2 * k) k c o from ⟨hF, hU⟩)
    have e : (x + r).toInt = x.toInt + r.toInt := ti_add (by omega) (by omega)
    obtain ⟨r2, t1, t2, t3⟩ := ih (k + 1) fu fu2 (x + r) (by omega) (by omega) (by omega) (by rw [e]; omega) (by rw [e]; omega)
    refine ⟨r2, ?_, ?_, t3⟩
    · show Bo_X10_moments_4 _ _ _ _ _ = _
      unfold Bo_X10_moments_4
      simp only [gI_d, hs, if_neg (nI_ge (show k < n by omega) (by omega)), inb_n (show k < 4 by omega) (by omega), ck_t, nI_clamp (show k < 2 ^ 31 by omega), s1, bd_s, lt1, nI_1]
      exact t1
    · show Bo_X12_moments_4 _ _ _ _ = _
      unfold Bo_X12_moments_4
      simp only [mnw_76, bd_s, hw, if_neg (nI_ge (show k < n by omega) (by omega)), s2, lt1, nI_1]
      exact t2
theorem moms_e {μ ν : gs_M} {v st n B : Nat} (hV : VC μ v (ν.1 89) (ν.1 83) st n B) : ∃ r : Int32, D_X10_moments v μ = some (r, μ) ∧ D_X12_moments ν = some (r, ν) ∧ -285120 ≤ r.toInt ∧ r.toInt ≤ 285120 :=
  moms_loop hV n 0 4096 4096 0 (by omega) (by have := hV.2.1; omega) (by have := hV.2.1; omega) (by decide) (by decide)
theorem i_tdb {x s M : Int} (h1 : -M ≤ x) (h2 : x ≤ M) (hs : 0 ≤ s) : -M ≤ x.tdiv s ∧ x.tdiv s ≤ M := by
  have pos : ∀ z : Int, 0 ≤ z → z ≤ M → 0 ≤ z.tdiv s ∧ z.tdiv s ≤ M := fun z hz hz2 => by
    have q := Int.ediv_le_self s hz
    refine ⟨Int.tdiv_nonneg hz hs, ?_⟩
    rw [Int.tdiv_eq_ediv_of_nonneg hz]
    omega
  rcases Int.le_total 0 x with h | h
  · have q := pos x h h2
    omega
  · have q := pos (-x) (by omega) (by omega)
    rw [Int.neg_tdiv] at q
    omega
/-- the settings -/
def SS (μ ν : gs_M) : Prop := μ.1 25 0 = ν.1 78 27 ∧ μ.1 25 1 = ν.1 78 28 ∧ μ.1 25 2 = ν.1 78 29 ∧ (1 ≤ (ν.1 78 27).toInt ∧ (ν.1 78 27).toInt ≤ 9999) ∧ (-999 ≤ (ν.1 78 28).toInt ∧ (ν.1 78 28).toInt ≤ 999)
theorem lean_e {μ ν : gs_M} {v st n B : Nat} (hV : VC μ v (ν.1 89) (ν.1 83) st n B) (hS : SS μ ν) : ∃ r : Int32, D_X10_lean v μ = some (r, μ) ∧ D_X12_lean ν = some (r, ν) ∧ -295110 ≤ r.toInt ∧ r.toInt ≤ 295110 := by
  obtain ⟨m, h1, h2, h3, h4⟩ := moms_e hV
  obtain ⟨s1, s2, s3, s4, s5⟩ := hS
  have c1 : (10 : Int32).toInt = 10 := by decide
  have h0 : (0 : Int32).toInt = 0 := by decide
  have e1 : (10 * ν.1 78 28).toInt = 10 * (ν.1 78 28).toInt := by rw [ti_mul (by rw [c1]; omega) (by rw [c1]; omega), c1]
  have e2 : (m + 10 * ν.1 78 28).toInt = m.toInt + 10 * (ν.1 78 28).toInt := by rw [ti_add (by rw [e1]; omega) (by rw [e1]; omega), e1]
  have hne : ν.1 78 27 ≠ 0 := fun h => by rw [h, h0] at s4; omega
  have hnl : ¬ ν.1 78 27 ≤ 0 := by rw [ti_le, h0]; omega
  refine ⟨(m + 10 * ν.1 78 28) / ν.1 78 27, ?_, ?_, ?_⟩
  · unfold D_X10_lean
    simp only [gI_d, lt1, s1, s2, if_neg hnl, h1, bd_s, nzi_t hne, ck_t]
  · unfold D_X12_lean
    simp only [h2, bd_s, gI_d, nzi_t hne, ck_t]
  · have q := i_tdb (x := m.toInt + 10 * (ν.1 78 28).toInt) (s := (ν.1 78 27).toInt) (M := 295110) (by omega) (by omega) (by omega)
    rw [Int32.toInt_div, e2, ti_bm (by omega) (by omega)]
    exact q
