/-! truths in both -/
def Z1 (v : Int32) : Prop := v = 0 ∨ v = 1
theorem Z1.z {v : Int32} (h : Z1 v) : zb v = true := by
  rcases h with rfl | rfl
  · exact zb_0
  · exact zb_1
theorem Z1.b {v : Int32} (h : Z1 v) : BD v := by
  rcases h with rfl | rfl <;> (unfold BD; decide)
/-- what makes a truth, in both -/
def VZ (B b0 n d : Nat) (X : gs_M → Option gs_M) (Y : gs_M → Option (Int32 × gs_M)) : Prop :=
  ∀ (k m p : Nat) (μ ν : gs_M), RY B b0 n d k m p μ ν → ∃ (v : Int32) (μ' ν' : gs_M), X μ = some μ' ∧ Y ν = some (v, ν') ∧ RF μ μ' ∧ RMR ν ν' ∧ Z1 v ∧ (FLT n μ' ν' ∨ ∃ m' p', m ≤ m' ∧ p < p' ∧ RY B b0 n d k m' p' μ' ν' ∧ (∀ j, j < m → μ'.1 6 j = μ.1 6 j) ∧ EV ν μ' m m' v)
/-- what goes on from a value -/
def VB (B b0 n d : Nat) (P : Int32 → Prop) (X : gs_M → Option gs_M) (Y : Int32 → gs_M → Option (Int32 × gs_M)) : Prop :=
  ∀ (k m0 m p : Nat) (x : Int32) (μ ν : gs_M), P x → 1 ≤ p → m0 ≤ m → RY B b0 n d k m p μ ν → EV ν μ m0 m x → ∃ (v : Int32) (μ' ν' : gs_M), X μ = some μ' ∧ Y x ν = some (v, ν') ∧ RF μ μ' ∧ RMR ν ν' ∧ Z1 v ∧ (FLT n μ' ν' ∨ ∃ m' p', m ≤ m' ∧ p ≤ p' ∧ RY B b0 n d k m' p' μ' ν' ∧ (∀ j, j < m → μ'.1 6 j = μ.1 6 j) ∧ EV ν μ' m0 m' v)
def isc (g : Int32) : Int32 := if g = 61 then 1 else if g = 60 then 1 else if g = 62 then 1 else 0
theorem ic_e (g : Int32) (μ : gs_M) : D_X5_isComparison g μ = some (isc g, μ) := by
  unfold D_X5_isComparison isc
  repeat' split
  all_goals rfl
theorem sg_e (g : Int32) (μ : gs_M) : D_X12_isSign g μ = some (isc g, μ) := by
  unfold D_X12_isSign isc
  repeat' split
  all_goals rfl
theorem isc_m1 : isc (-1) = 0 := by decide
theorem cmp_v {L : Nat → Int32} {g x w : Int32} (ν2 : gs_M) (q : ¬ isc g = 0) : ∃ v : Int32, (if g = (61 : Int32) then (if x = w then (some ((1 : Int32), ν2)) else (some ((0 : Int32), ν2))) else (if g = (60 : Int32) then (if w ≤ x then (some ((0 : Int32), ν2)) else (some ((1 : Int32), ν2))) else (if x ≤ w then (some ((0 : Int32), ν2)) else (some ((1 : Int32), ν2))))) = some (v, ν2) ∧ Z1 v ∧ OKc (-g) ∧ ∀ s, run1 L (-g) (w :: x :: s) = v :: s := by
  by_cases q1 : g = 61
  · subst q1
    rw [if_pos rfl]
    have r := fun s => r1_b (L := L) (g := 61) (x := x) (y := w) (by omega) s
    have j : jn (nI 61) x w = if x = w then 1 else 0 := rfl
    by_cases e : x = w
    · rw [if_pos e] at j ⊢
      rw [j] at r
      exact ⟨1, rfl, Or.inr rfl, okc_b (g := 61) (by omega), r⟩
    · rw [if_neg e] at j ⊢
      rw [j] at r
      exact ⟨0, rfl, Or.inl rfl, okc_b (g := 61) (by omega), r⟩
  rw [if_neg q1]
  by_cases q2 : g = 60
  · subst q2
    rw [if_pos rfl]
    have r := fun s => r1_b (L := L) (g := 60) (x := x) (y := w) (by omega) s
    have j : jn (nI 60) x w = if w ≤ x then 0 else 1 := rfl
    by_cases e : w ≤ x
    · rw [if_pos e] at j ⊢
      rw [j] at r
      exact ⟨0, rfl, Or.inl rfl, okc_b (g := 60) (by omega), r⟩
    · rw [if_neg e] at j ⊢
      rw [j] at r
      exact ⟨1, rfl, Or.inr rfl, okc_b (g := 60) (by omega), r⟩
  rw [if_neg q2]
  have q3 : g = 62 := by
    unfold isc at q
    rw [if_neg q1, if_neg q2] at q
    by_cases e : g = 62
    · exact e
    · rw [if_neg e] at q
      exact absurd rfl q
  subst q3
  have r := fun s => r1_b (L := L) (g := 62) (x := x) (y := w) (by omega) s
  have j : jn (nI 62) x w = if x ≤ w then 0 else 1 := rfl
  by_cases e : x ≤ w
  · rw [if_pos e] at j ⊢
    rw [j] at r
    exact ⟨0, rfl, Or.inl rfl, okc_b (g := 62) (by omega), r⟩
  · rw [if_neg e] at j ⊢
    rw [j] at r
    exact ⟨1, rfl, Or.inr rfl, okc_b (g := 62) (by omega), r⟩
theorem cpr_e {B b0 n d N M : Nat} (hs : VK B b0 n d (RD N 4 (nI d)) (MD M 2 0 0)) : VB B b0 n d (fun _ => True) (RD (N + 1) 3 (nI d)) (B_X12_compares_12 (MD M)) := by
  intro k m0 m p x μ ν _ _ hm0 hR hV
  show ∃ (v : Int32) (μ' ν' : gs_M), O_X5_readComparison (RD N) (nI d) μ = some μ' ∧ _
  unfold O_X5_readComparison B_X5_readComparison_19 B_X12_compares_12
  obtain ⟨g, p', μ1, ν1, t0, t1, t2, t3, t4, t5, t6, t7, t8, t9⟩ := hR.nx
  obtain ⟨F1, F2, F3⟩ := t3.flt
  have s1 := t3.2.2.1
  have s2 := hR.2.2.2.1
  have A1 := t3.2.1
  have hmp := t3.2.2.2.2.2.1
  rw [t1, bd_s, is_e, if_pos s1, bd_s, if_neg z10, ic_e, bd_s, gI_d ν 78 11, if_pos s2, t2, bd_s, sg_e, bd_s]
  by_cases q : isc g = 0
  · rw [if_pos q, if_pos q, gI_d μ1 5 1, A1.2.1, F1, bd0_s, F2, bd_s, zb_0, ck_t]
    exact ⟨0, _, _, rfl, rfl, t4.trans RF.s5, t5.trans (RMR.s (Or.inr (Or.inl rfl))), Or.inl rfl, Or.inl F3⟩
  · rw [if_neg q, if_neg q, lt1, gI_d μ1 5 1, A1.2.1, nI_1, lt1, gI_d ν1 78 10, A1.2.2, nI_1]
    have hp : p' < n := by
      rcases t9 with ⟨-, e⟩ | ⟨e, -⟩
      · rw [e] at q
        exact absurd isc_m1 q
      · exact e
    obtain ⟨w, μ2, ν2, u1, u2, u3, u4, u5⟩ := hs (k + 1) m (p' + 1) _ _ (t3.mv (p' := p' + 1) (k' := k + 1) (by omega) (by omega))
    obtain ⟨v, hv, hz, hok, hop⟩ := cmp_v (L := Lm ν) (x := x) (w := w) ν2 q
    rw [u1, bd0_s, u2, bd_s, hv]
    have M2 : RMR ν ν2 := t5.trans ((RMR.s (Or.inl rfl)).trans u4)
    have C2 : RF μ μ2 := t4.trans (RF.s5.trans u3)
    rcases u5 with ⟨qf, hU, hq⟩ | ⟨m2, p2, w1, w2, w3, w4, w5⟩
    · obtain ⟨μ3, y1, y2, y3⟩ := un_put hU (-g)
      rw [y1, bd0_s]
      exact ⟨v, μ3, ν2, rfl, rfl, C2.trans y3, M2, hz, Or.inl ⟨qf, y2, hq⟩⟩
    · obtain ⟨y1, y2, y3, y4, y5⟩ := w3.put (-g)
      rw [y1, bd0_s]
      have hc6 : ∀ j, j < m → μ2.1 6 j = μ.1 6 j := fun j hj => by rw [w4 j hj, sI_n _ _ _ (by decide), t6]
      refine ⟨v, _, ν2, rfl, rfl, C2.trans y3, M2, hz, Or.inr ⟨m2 + 1, p2, by omega, by omega, y2, fun j hj => by rw [y5 j (by omega), hc6 j hj], ?_⟩⟩
      refine EV.bin (x := x) (y := w) (c := -g) hm0 w1 hV (fun j hj => by rw [y5 j (by omega)]; exact hc6 j hj) ?_ y4 hok (fun _ _ _ => ⟨hz.b, hop⟩)
      exact (EV.nu (t5.trans (RMR.s (Or.inl rfl))) w5).mu (fun j hj => y5 j (by omega))
theorem bd0_a {a : Option gs_M} {f g : gs_M → Option gs_M} : bd0 a (fun u => bd0 (f u) g) = bd0 (bd0 a f) g := by
  cases a <;> rfl
def anN (v w : Int32) : Int32 := if v = 0 then 0 else if w = 0 then 0 else 1
def orN (v w : Int32) : Int32 := if v = 0 then (if w = 0 then 0 else 1) else 1
theorem an_v {L : Nat → Int32} {v w : Int32} (hv : Z1 v) (hw : Z1 w) : Z1 (anN v w) ∧ ∀ s, run1 L (-(nI 38)) (w :: v :: s) = anN v w :: s := by
  have r := fun s => r1_b (L := L) (g := 38) (x := v) (y := w) (by omega) s
  have j : jn (nI 38) v w = anN v w := by
    rcases hv with rfl | rfl <;> rcases hw with rfl | rfl <;> decide
  rw [j] at r
  refine ⟨?_, r⟩
  rcases hv with rfl | rfl <;> rcases hw with rfl | rfl <;> (unfold Z1; decide)
theorem or_v {L : Nat → Int32} {v w : Int32} (hv : Z1 v) (hw : Z1 w) : Z1 (orN v w) ∧ ∀ s, run1 L (-(nI 124)) (w :: v :: s) = orN v w :: s := by
  have r := fun s => r1_b (L := L) (g := 124) (x := v) (y := w) (by omega) s
  have j : jn (nI 124) v w = orN v w := by
    rcases hv with rfl | rfl <;> rcases hw with rfl | rfl <;> decide
  rw [j] at r
  refine ⟨?_, r⟩
  rcases hv with rfl | rfl <;> rcases hw with rfl | rfl <;> (unfold Z1; decide)

theorem to_l {B b0 n d k m0 : Nat} {E : Nat → Int32 → gs_M → Option gs_M} {F : Nat → Int32 → Int32 → gs_M → Option (Int32 × gs_M)} (hE : VZ B b0 n d (E 0 (nI d)) (F 4 0 0)) : ∀ (i c m p fu fu2 : Nat) (v : Int32) (μ ν : gs_M), n - p < i → i ≤ fu → i ≤ fu2 → c < p → m0 ≤ m → Z1 v → RY B b0 n d k m p μ ν → EV ν μ m0 m v → ∃ (v' : Int32) (μ' ν' : gs_M), L_X5_readTruthOn_2 E fu (nI d) (nI c) μ = some μ' ∧ L_X12_part_18 F fu2 v ν = some (v', ν') ∧ RF μ μ' ∧ RMR ν ν' ∧ Z1 v' ∧ (FLT n μ' ν' ∨ ∃ m' p', m ≤ m' ∧ p ≤ p' ∧ RY B b0 n d k m' p' μ' ν' ∧ (∀ j, j < m → μ'.1 6 j = μ.1 6 j) ∧ EV ν μ' m0 m' v') := by
  intro i
  induction i with
  | zero =>
    intro c m p fu fu2 v μ ν hi
    omega
  | succ i ih =>
    intro c m p fu fu2 v μ ν hi hf hf2 hc hm0 hz hR hV
    obtain ⟨fu, rfl⟩ : ∃ m, fu = m + 1 := ⟨fu - 1, by omega⟩
    obtain ⟨fu2, rfl⟩ : ∃ m, fu2 = m + 1 := ⟨fu2 - 1, by omega⟩
    obtain ⟨g, p', μ1, ν1, t0, t1, t2, t3, t4, t5, t6, t7, t8, t9⟩ := hR.nx
    have n160 := hR.1.1
    have pn := hR.2.1.1
    have s1 := hR.2.2.1
    have s2 := hR.2.2.2.1
    have A1 := t3.2.1
    have hmp := t3.2.2.2.2.2.1
    have cA1 : D_X4_accept 5 38 μ = if g = 38 then some (1, sI μ1 5 1 (nI (p' + 1))) else some (0, μ1) := by
      unfold D_X4_accept
      rw [gI_d μ 5 2, if_pos s1, t1, bd_s, lt1, gI_d μ1 5 1, A1.2.1, nI_1]
    have c1 : L_X5_readTruthOn_2 E (fu + 1) (nI d) (nI c) μ = if g = 38 then bd0 ((E 0 (nI d)) (sI μ1 5 1 (nI (p' + 1)))) (fun u => bd0 (D_X5_put (-38) u) (fun u => L_X5_readTruthOn_2 E fu (nI d) (nI (c + 1)) u)) else some μ1 := by
      show Bo_X5_readTruthOn_2 _ _ _ _ _ = _
      unfold Bo_X5_readTruthOn_2
      rw [if_neg (show ¬ (160 : Int32) ≤ nI c by rw [show (160 : Int32) = nI 160 from rfl]; exact nI_ge (by omega) (by omega)), cA1]
      by_cases q : g = 38
      · rw [if_pos q, if_pos q, bd_s, if_neg z10, nI_1]
      · rw [if_neg q, if_neg q, bd_s, if_pos rfl]
    rw [c1]
    by_cases qq : g = 38
    · have hp : p' < n := by
        rcases t9 with ⟨-, e⟩ | ⟨e, -⟩
        · exfalso
          rw [e] at qq
          revert qq
          decide
        · exact e
      rw [if_pos qq]
      obtain ⟨w, μ2, ν2, u1, u2, u3, u4, uz, u5⟩ := hE (k + 1) m (p' + 1) _ _ (t3.mv (p' := p' + 1) (k' := k + 1) (by omega) (by omega))
      rw [u1, bd0_s]
      obtain ⟨hz2, hop⟩ := an_v (L := Lm ν) hz uz
      have m1 : L_X12_part_18 F (fu2 + 1) v ν = L_X12_part_18 F fu2 (anN v w) ν2 := by
        show Bo_X12_part_18 _ _ _ _ = _
        unfold Bo_X12_part_18 B_X12_part_64
        rw [gI_d ν 78 11, if_pos s2, t2, bd_s, if_pos qq, lt1, gI_d ν1 78 10, A1.2.2, nI_1, u2, bd_s]
        unfold anN
        by_cases e : v = 0
        · rw [if_pos e, if_pos e]
        · rw [if_neg e, if_neg e]
          by_cases e2 : w = 0
          · rw [if_pos e2, if_pos e2]
          · rw [if_neg e2, if_neg e2]
      rw [m1]
      obtain ⟨fu, rfl⟩ : ∃ m, fu = m + 1 := ⟨fu - 1, by omega⟩
      obtain ⟨fu2, rfl⟩ : ∃ m, fu2 = m + 1 := ⟨fu2 - 1, by omega⟩
      have M2 : RMR ν ν2 := t5.trans ((RMR.s (Or.inl rfl)).trans u4)
      have C2 : RF μ μ2 := t4.trans (RF.s5.trans u3)
      rcases u5 with hF | ⟨m2, p2, w1, w2, w3, w4, w5⟩
      · have hFn := hF.n
        obtain ⟨qf, hU, hq⟩ := hF
        obtain ⟨μ3, y1, y2, y3⟩ := un_put hU (-38)
        rw [y1, bd0_s]
        refine ⟨anN v w, μ3, ν2, ?_, ?_, C2.trans y3, M2, hz2, Or.inl ⟨qf, y2, hq⟩⟩
        · show Bo_X5_readTruthOn_2 _ _ _ _ _ = _
          unfold Bo_X5_readTruthOn_2
          rw [if_neg (show ¬ (160 : Int32) ≤ nI (c + 1) by rw [show (160 : Int32) = nI 160 from rfl]; exact nI_ge (by omega) (by omega)), un_accept y2, bd_s, if_pos rfl]
        · show Bo_X12_part_18 _ _ _ _ = _
          unfold Bo_X12_part_18
          rw [gI_d ν2 78 11, if_neg hFn, hz2.z, ck_t]
      · obtain ⟨y1, y2, y3, y4, y5⟩ := w3.put (-38)
        rw [y1, bd0_s]
        have hc6 : ∀ j, j < m → μ2.1 6 j = μ.1 6 j := fun j hj => by rw [w4 j hj, sI_n _ _ _ (by decide), t6]
        have V2 : EV ν (sI (sI μ2 6 m2 (-38)) 5 4 (nI (m2 + 1))) m0 (m2 + 1) (anN v w) := by
          refine EV.bin (x := v) (y := w) (c := -38) hm0 w1 hV (fun j hj => by rw [y5 j (by omega)]; exact hc6 j hj) ?_ y4 (okc_b (g := 38) (by omega)) (fun _ _ _ => ⟨hz2.b, hop⟩)
          exact (EV.nu (t5.trans (RMR.s (Or.inl rfl))) w5).mu (fun j hj => y5 j (by omega))
        clear t9
        have o1 : n - p2 < i := by omega
        have o2 : i ≤ fu + 1 := by omega
        have o3 : i ≤ fu2 + 1 := by omega
        obtain ⟨v', μ', ν', z1, z2, z3, z4, zz, z5⟩ := ih (c + 1) (m2 + 1) p2 (fu + 1) (fu2 + 1) (anN v w) _ _ o1 o2 o3 (by omega) (by omega) hz2 y2 (V2.nu2 M2)
        refine ⟨v', μ', ν', z1, z2, (C2.trans y3).trans z3, M2.trans z4, zz, ?_⟩
        rcases z5 with z5 | ⟨m', p3, k1, k2, k3, k4, k5⟩
        · exact Or.inl z5
        · exact Or.inr ⟨m', p3, by omega, by omega, k3, fun j hj => by rw [k4 j (by omega), y5 j (by omega), hc6 j hj], k5.nu M2⟩
    · rw [if_neg qq]
      refine ⟨v, μ1, ν1, rfl, ?_, t4, t5, hz, Or.inr ⟨m, p', Nat.le_refl _, t0, t3, fun j _ => by rw [t6], hV.mu (fun j _ => by rw [t6])⟩⟩
      show Bo_X12_part_18 _ _ _ _ = _
      unfold Bo_X12_part_18
      rw [gI_d ν 78 11, if_pos s2, t2, bd_s, if_neg qq, hz.z, ck_t]

theorem co_l {B b0 n d k m0 : Nat} {E : Nat → Int32 → gs_M → Option gs_M} {F : Nat → Int32 → Int32 → gs_M → Option (Int32 × gs_M)} (hE : VZ B b0 n d (fun μ => bd0 (E 0 (nI d) μ) (fun u => E 2 (nI d) u)) (F 5 0 0)) : ∀ (i c m p fu fu2 : Nat) (v : Int32) (μ ν : gs_M), n - p < i → i ≤ fu → i ≤ fu2 → c < p → m0 ≤ m → Z1 v → RY B b0 n d k m p μ ν → EV ν μ m0 m v → ∃ (v' : Int32) (μ' ν' : gs_M), L_X5_readConditionOn_7 E fu (nI d) (nI c) μ = some μ' ∧ L_X12_condition_7 F fu2 v ν = some (v', ν') ∧ RF μ μ' ∧ RMR ν ν' ∧ Z1 v' ∧ (FLT n μ' ν' ∨ ∃ m' p', m ≤ m' ∧ p ≤ p' ∧ RY B b0 n d k m' p' μ' ν' ∧ (∀ j, j < m → μ'.1 6 j = μ.1 6 j) ∧ EV ν μ' m0 m' v') := by
  intro i
  induction i with
  | zero =>
    intro c m p fu fu2 v μ ν hi
    omega
  | succ i ih =>
    intro c m p fu fu2 v μ ν hi hf hf2 hc hm0 hz hR hV
    obtain ⟨fu, rfl⟩ : ∃ m, fu = m + 1 := ⟨fu - 1, by omega⟩
    obtain ⟨fu2, rfl⟩ : ∃ m, fu2 = m + 1 := ⟨fu2 - 1, by omega⟩
    obtain ⟨g, p', μ1, ν1, t0, t1, t2, t3, t4, t5, t6, t7, t8, t9⟩ := hR.nx
    have n160 := hR.1.1
    have pn := hR.2.1.1
    have s1 := hR.2.2.1
    have s2 := hR.2.2.2.1
    have A1 := t3.2.1
    have hmp := t3.2.2.2.2.2.1
    have cA1 : D_X4_accept 5 124 μ = if g = 124 then some (1, sI μ1 5 1 (nI (p' + 1))) else some (0, μ1) := by
      unfold D_X4_accept
      rw [gI_d μ 5 2, if_pos s1, t1, bd_s, lt1, gI_d μ1 5 1, A1.2.1, nI_1]
    have c1 : L_X5_readConditionOn_7 E (fu + 1) (nI d) (nI c) μ = if g = 124 then bd0 ((fun μ => bd0 (E 0 (nI d) μ) (fun u => E 2 (nI d) u)) (sI μ1 5 1 (nI (p' + 1)))) (fun u => bd0 (D_X5_put (-124) u) (fun u => L_X5_readConditionOn_7 E fu (nI d) (nI (c + 1)) u)) else some μ1 := by
      show Bo_X5_readConditionOn_7 _ _ _ _ _ = _
      unfold Bo_X5_readConditionOn_7
      rw [if_neg (show ¬ (160 : Int32) ≤ nI c by rw [show (160 : Int32) = nI 160 from rfl]; exact nI_ge (by omega) (by omega)), cA1]
      by_cases q : g = 124
      · rw [if_pos q, if_pos q, bd_s, if_neg z10, nI_1]
        exact bd0_a
      · rw [if_neg q, if_neg q, bd_s, if_pos rfl]
    rw [c1]
    by_cases qq : g = 124
    · have hp : p' < n := by
        rcases t9 with ⟨-, e⟩ | ⟨e, -⟩
        · exfalso
          rw [e] at qq
          revert qq
          decide
        · exact e
      rw [if_pos qq]
      obtain ⟨w, μ2, ν2, u1, u2, u3, u4, uz, u5⟩ := hE (k + 1) m (p' + 1) _ _ (t3.mv (p' := p' + 1) (k' := k + 1) (by omega) (by omega))
      rw [u1, bd0_s]
      obtain ⟨hz2, hop⟩ := or_v (L := Lm ν) hz uz
      have m1 : L_X12_condition_7 F (fu2 + 1) v ν = L_X12_condition_7 F fu2 (orN v w) ν2 := by
        show Bo_X12_condition_7 _ _ _ _ = _
        unfold Bo_X12_condition_7
        rw [gI_d ν 78 11, if_pos s2, t2, bd_s, if_pos qq, lt1, gI_d ν1 78 10, A1.2.2, nI_1, u2, bd_s]
        unfold orN
        by_cases e : v = 0
        · rw [if_pos e, if_pos e]
          by_cases e2 : w = 0
          · rw [if_pos e2, if_pos e2]
          · rw [if_neg e2, if_neg e2]
        · rw [if_neg e, if_neg e]
      rw [m1]
      obtain ⟨fu, rfl⟩ : ∃ m, fu = m + 1 := ⟨fu - 1, by omega⟩
      obtain ⟨fu2, rfl⟩ : ∃ m, fu2 = m + 1 := ⟨fu2 - 1, by omega⟩
      have M2 : RMR ν ν2 := t5.trans ((RMR.s (Or.inl rfl)).trans u4)
      have C2 : RF μ μ2 := t4.trans (RF.s5.trans u3)
      rcases u5 with hF | ⟨m2, p2, w1, w2, w3, w4, w5⟩
      · have hFn := hF.n
        obtain ⟨qf, hU, hq⟩ := hF
        obtain ⟨μ3, y1, y2, y3⟩ := un_put hU (-124)
        rw [y1, bd0_s]
        refine ⟨orN v w, μ3, ν2, ?_, ?_, C2.trans y3, M2, hz2, Or.inl ⟨qf, y2, hq⟩⟩
        · show Bo_X5_readConditionOn_7 _ _ _ _ _ = _
          unfold Bo_X5_readConditionOn_7
          rw [if_neg (show ¬ (160 : Int32) ≤ nI (c + 1) by rw [show (160 : Int32) = nI 160 from rfl]; exact nI_ge (by omega) (by omega)), un_accept y2, bd_s, if_pos rfl]
        · show Bo_X12_condition_7 _ _ _ _ = _
          unfold Bo_X12_condition_7
          rw [gI_d ν2 78 11, if_neg hFn, hz2.z, ck_t]
      · obtain ⟨y1, y2, y3, y4, y5⟩ := w3.put (-124)
        rw [y1, bd0_s]
        have hc6 : ∀ j, j < m → μ2.1 6 j = μ.1 6 j := fun j hj => by rw [w4 j hj, sI_n _ _ _ (by decide), t6]
        have V2 : EV ν (sI (sI μ2 6 m2 (-124)) 5 4 (nI (m2 + 1))) m0 (m2 + 1) (orN v w) := by
          refine EV.bin (x := v) (y := w) (c := -124) hm0 w1 hV (fun j hj => by rw [y5 j (by omega)]; exact hc6 j hj) ?_ y4 (okc_b (g := 124) (by omega)) (fun _ _ _ => ⟨hz2.b, hop⟩)
          exact (EV.nu (t5.trans (RMR.s (Or.inl rfl))) w5).mu (fun j hj => y5 j (by omega))
        clear t9
        have o1 : n - p2 < i := by omega
        have o2 : i ≤ fu + 1 := by omega
        have o3 : i ≤ fu2 + 1 := by omega
        obtain ⟨v', μ', ν', z1, z2, z3, z4, zz, z5⟩ := ih (c + 1) (m2 + 1) p2 (fu + 1) (fu2 + 1) (orN v w) _ _ o1 o2 o3 (by omega) (by omega) hz2 y2 (V2.nu2 M2)
        refine ⟨v', μ', ν', z1, z2, (C2.trans y3).trans z3, M2.trans z4, zz, ?_⟩
        rcases z5 with z5 | ⟨m', p3, k1, k2, k3, k4, k5⟩
        · exact Or.inl z5
        · exact Or.inr ⟨m', p3, by omega, by omega, k3, fun j hj => by rw [k4 j (by omega), y5 j (by omega), hc6 j hj], k5.nu M2⟩
    · rw [if_neg qq]
      refine ⟨v, μ1, ν1, rfl, ?_, t4, t5, hz, Or.inr ⟨m, p', Nat.le_refl _, t0, t3, fun j _ => by rw [t6], hV.mu (fun j _ => by rw [t6])⟩⟩
      show Bo_X12_condition_7 _ _ _ _ = _
      unfold Bo_X12_condition_7
      rw [gI_d ν 78 11, if_pos s2, t2, bd_s, if_neg qq, hz.z, ck_t]

/-- truthOn -/
theorem to_e {B b0 n d N M : Nat} (hE : VZ B b0 n d (RD N 0 (nI d)) (MD M 4 0 0)) : VB B b0 n d Z1 (RD (N + 1) 2 (nI d)) (L_X12_part_18 (MD M) 4096) := by
  intro k m0 m p x μ ν hz hp1 hm0 hR hV
  rw [rd_2]
  unfold O_X5_readTruthOn
  have n160 := hR.1.1
  exact to_l hE (n + 1) 0 m p 4096 4096 x μ ν (by omega) (by omega) (by omega) (by omega) hm0 hz hR hV
/-- part -/
theorem pa_e {B b0 n d N M : Nat} (hE : VZ B b0 n d (RD (N + 1) 0 (nI d)) (MD M 4 0 0)) (hT : VB B b0 n d Z1 (RD (N + 1) 2 (nI d)) (L_X12_part_18 (MD M) 4096)) : VZ B b0 n d (fun μ => bd0 (RD (N + 1) 0 (nI d) μ) (fun u => RD (N + 1) 2 (nI d) u)) (MD (M + 1) 5 0 0) := by
  intro k m p μ ν hR
  show ∃ (v : Int32) (μ' ν' : gs_M), bd0 (RD (N + 1) 0 (nI d) μ) (fun u => RD (N + 1) 2 (nI d) u) = some μ' ∧ O_X12_part (MD M) 0 0 ν = some (v, ν') ∧ _
  unfold O_X12_part B_X12_part_17
  obtain ⟨v, μ1, ν1, t1, t2, t3, t4, tz, t5⟩ := hE k m p μ ν hR
  rw [t1, bd0_s, if_pos rfl, t2, bd_s]
  rcases t5 with hF | ⟨m1, p1, u1, u2, u3, u4, u5⟩
  · have hFn := hF.n
    obtain ⟨qf, hU, hq⟩ := hF
    obtain ⟨μ2, y1, y2, y3⟩ := un_truth (N := N) hU (nI d)
    rw [y1]
    refine ⟨v, μ2, ν1, rfl, ?_, t3.trans y3, t4, tz, Or.inl ⟨qf, y2, hq⟩⟩
    show Bo_X12_part_18 _ _ _ _ = _
    unfold Bo_X12_part_18
    rw [gI_d ν1 78 11, if_neg hFn, tz.z, ck_t]
  · obtain ⟨v', μ', ν', z1, z2, z3, z4, zz, z5⟩ := hT k m m1 p1 v μ1 ν1 tz (by omega) u1 u3 (u5.nu2 t4)
    rw [z1, z2]
    refine ⟨v', μ', ν', rfl, rfl, t3.trans z3, t4.trans z4, zz, ?_⟩
    rcases z5 with z5 | ⟨m', p', k1, k2, k3, k4, k5⟩
    · exact Or.inl z5
    · exact Or.inr ⟨m', p', by omega, by omega, k3, fun j hj => by rw [k4 j (by omega), u4 j hj], k5.nu t4⟩
def QN (M : Nat) (x : Int32) (ν : gs_M) : Option (Int32 × gs_M) := bd (L_X12_part_18 (MD M) 4096 x ν) (fun v u => L_X12_condition_7 (MD (M + 1)) 4096 v u)
/-- conditionOn -/
theorem co_e {B b0 n d N M : Nat} (hT : VB B b0 n d Z1 (RD (N + 1) 2 (nI d)) (L_X12_part_18 (MD M) 4096)) (hP : VZ B b0 n d (fun μ => bd0 (RD (N + 1) 0 (nI d) μ) (fun u => RD (N + 1) 2 (nI d) u)) (MD (M + 1) 5 0 0)) : VB B b0 n d Z1 (RD (N + 2) 1 (nI d)) (QN M) := by
  intro k m0 m p x μ ν hz hp1 hm0 hR hV
  show ∃ (v : Int32) (μ' ν' : gs_M), O_X5_readConditionOn (RD (N + 1)) (nI d) μ = some μ' ∧ _
  unfold O_X5_readConditionOn QN
  obtain ⟨v, μ1, ν1, t1, t2, t3, t4, tz, t5⟩ := hT k m0 m p x μ ν hz hp1 hm0 hR hV
  rw [t1, bd0_s, t2, bd_s]
  rcases t5 with hF | ⟨m1, p1, u1, u2, u3, u4, u5⟩
  · have hFn := hF.n
    have hF' := hF
    obtain ⟨qf, hU, hq⟩ := hF
    refine ⟨v, μ1, ν1, ?_, ?_, t3, t4, tz, Or.inl hF'⟩
    · show Bo_X5_readConditionOn_7 _ _ _ _ _ = _
      unfold Bo_X5_readConditionOn_7
      rw [if_neg (by decide), un_accept hU, bd_s, if_pos rfl]
    · show Bo_X12_condition_7 _ _ _ _ = _
      unfold Bo_X12_condition_7
      rw [gI_d ν1 78 11, if_neg hFn, tz.z, ck_t]
  · have n160 := u3.1.1
    obtain ⟨v', μ', ν', z1, z2, z3, z4, zz, z5⟩ := co_l hP (m0 := m0) (n + 1) 0 m1 p1 4096 4096 v μ1 ν1 (by omega) (by omega) (by omega) (by omega) (by omega) tz u3 (u5.nu2 t4)
    refine ⟨v', μ', ν', z1, z2, t3.trans z3, t4.trans z4, zz, ?_⟩
    rcases z5 with z5 | ⟨m', p', k1, k2, k3, k4, k5⟩
    · exact Or.inl z5
    · exact Or.inr ⟨m', p', by omega, by omega, k3, fun j hj => by rw [k4 j (by omega), u4 j hj], k5.nu t4⟩
/-- at fault the model's rest of a condition does nothing -/
theorem qn_f {M : Nat} {x : Int32} {ν : gs_M} (h : ¬ ν.1 78 11 = -1) (hz : Z1 x) : QN M x ν = some (x, ν) := by
  unfold QN
  have e1 : L_X12_part_18 (MD M) 4096 x ν = some (x, ν) := by
    show Bo_X12_part_18 _ _ _ _ = _
    unfold Bo_X12_part_18
    rw [gI_d ν 78 11, if_neg h, hz.z, ck_t]
  rw [e1, bd_s]
  show Bo_X12_condition_7 _ _ _ _ = _
  unfold Bo_X12_condition_7
  rw [gI_d ν 78 11, if_neg h, hz.z, ck_t]
theorem bd_a {a : Option (Int32 × gs_M)} {f g : Int32 → gs_M → Option (Int32 × gs_M)} : bd (bd a f) g = bd a (fun v u => bd (f v u) g) := by
  cases a <;> rfl
/-- a whole condition -/
theorem cd_m {M : Nat} {ν : gs_M} : MD (M + 2) 6 0 0 ν = bd (MD M 4 0 0 ν) (fun v u => QN M v u) := by
  show O_X12_condition (MD (M + 1)) 0 0 ν = _
  unfold O_X12_condition
  rw [show MD (M + 1) 5 0 0 ν = O_X12_part (MD M) 0 0 ν from rfl]
  unfold O_X12_part B_X12_part_17 QN
  rw [if_pos rfl, bd_a]
theorem cd_m1 {M : Nat} {x : Int32} {ν : gs_M} : MD (M + 3) 6 1 x ν = bd (B_X12_compares_12 (MD M) x ν) (fun v u => QN (M + 1) v u) := by
  show O_X12_condition (MD (M + 2)) 1 x ν = _
  unfold O_X12_condition
  rw [show MD (M + 2) 5 1 x ν = O_X12_part (MD (M + 1)) 1 x ν from rfl]
  unfold O_X12_part B_X12_part_17 QN
  rw [if_neg z10, bd_a, show MD (M + 1) 3 1 x ν = O_X12_compares (MD M) 1 x ν from rfl]
  unfold O_X12_compares
  rw [if_neg z10]
theorem cd_e {B b0 n d N M : Nat} (hE : VZ B b0 n d (RD (N + 2) 0 (nI d)) (MD M 4 0 0)) (hC : VB B b0 n d Z1 (RD (N + 2) 1 (nI d)) (QN M)) : VZ B b0 n d (fun μ => bd0 (RD (N + 2) 0 (nI d) μ) (fun u => RD (N + 2) 1 (nI d) u)) (MD (M + 2) 6 0 0) := by
  intro k m p μ ν hR
  rw [cd_m]
  show ∃ (v : Int32) (μ' ν' : gs_M), bd0 (RD (N + 2) 0 (nI d) μ) (fun u => RD (N + 2) 1 (nI d) u) = some μ' ∧ _
  obtain ⟨v, μ1, ν1, t1, t2, t3, t4, tz, t5⟩ := hE k m p μ ν hR
  rw [t1, bd0_s, t2, bd_s]
  rcases t5 with hF | ⟨m1, p1, u1, u2, u3, u4, u5⟩
  · rw [qn_f hF.n tz]
    obtain ⟨qf, hU, hq⟩ := hF
    obtain ⟨μ2, y1, y2, y3⟩ := un_cond (N := N) hU (nI d)
    rw [y1]
    exact ⟨v, μ2, ν1, rfl, rfl, t3.trans y3, t4, tz, Or.inl ⟨qf, y2, hq⟩⟩
  · obtain ⟨v', μ', ν', z1, z2, z3, z4, zz, z5⟩ := hC k m m1 p1 v μ1 ν1 tz (by omega) u1 u3 (u5.nu2 t4)
    rw [z1, z2]
    refine ⟨v', μ', ν', rfl, rfl, t3.trans z3, t4.trans z4, zz, ?_⟩
    rcases z5 with z5 | ⟨m', p', k1, k2, k3, k4, k5⟩
    · exact Or.inl z5
    · exact Or.inr ⟨m', p', by omega, by omega, k3, fun j hj => by rw [k4 j (by omega), u4 j hj], k5.nu t4⟩
/-- a comparison from its beginning -/
theorem usr_e {B b0 n d N M : Nat} (hs : VK B b0 n d (RD (N + 1) 4 (nI d)) (MD M 2 0 0)) (hs2 : VK B b0 n d (RD N 4 (nI d)) (MD M 2 0 0)) : VZ B b0 n d (fun μ => bd0 (RD (N + 1) 4 (nI d) μ) (fun u => RD (N + 1) 3 (nI d) u)) (MD (M + 1) 3 0 0) := by
  intro k m p μ ν hR
  show ∃ (v : Int32) (μ' ν' : gs_M), bd0 (RD (N + 1) 4 (nI d) μ) (fun u => RD (N + 1) 3 (nI d) u) = some μ' ∧ O_X12_compares (MD M) 0 0 ν = some (v, ν') ∧ _
  unfold O_X12_compares
  obtain ⟨v, μ1, ν1, t1, t2, t3, t4, t5⟩ := hs k m p μ ν hR
  rw [t1, bd0_s, if_pos rfl, t2, bd_s]
  rcases t5 with hF | ⟨m1, p1, u1, u2, u3, u4, u5⟩
  · have hFn := hF.n
    obtain ⟨qf, hU, hq⟩ := hF
    obtain ⟨μ2, y1, y2, y3⟩ := un_comp (N := N) hU (nI d)
    rw [y1]
    refine ⟨0, μ2, ν1, rfl, ?_, t3.trans y3, t4, Or.inl rfl, Or.inl ⟨qf, y2, hq⟩⟩
    unfold B_X12_compares_12
    rw [gI_d ν1 78 11, if_neg hFn]
  · obtain ⟨v', μ', ν', z1, z2, z3, z4, zz, z5⟩ := cpr_e hs2 k m m1 p1 v μ1 ν1 trivial (by omega) u1 u3 (u5.nu2 t4)
    rw [z1, z2]
    refine ⟨v', μ', ν', rfl, rfl, t3.trans z3, t4.trans z4, zz, ?_⟩
    rcases z5 with z5 | ⟨m', p', k1, k2, k3, k4, k5⟩
    · exact Or.inl z5
    · exact Or.inr ⟨m', p', by omega, by omega, k3, fun j hj => by rw [k4 j (by omega), u4 j hj], k5.nu t4⟩
/-- one deeper -/
theorem gd_e {B b0 n d k m p : Nat} {μ ν : gs_M} (hd6 : d ≤ 6) (hR : RY B b0 n d k m p μ ν) (hp : p < n) : (∃ μ' ν', D_X5_goesDeeper (nI d) μ = some (0, μ') ∧ D_X12_goesIn ν = some (0, ν') ∧ FLT n μ' ν' ∧ RF μ μ' ∧ RMR ν ν') ∨ (d < 6 ∧ ∃ μ' ν', D_X5_goesDeeper (nI d) μ = some (1, μ') ∧ D_X12_goesIn ν = some (1, ν') ∧ RY B b0 n (d + 1) (k + 1) m (p + 1) μ' ν' ∧ RF μ μ' ∧ RMR ν ν' ∧ μ'.1 6 = μ.1 6) := by
  obtain ⟨F1, F2, F3⟩ := hR.flt
  have hR' := hR
  obtain ⟨T, A, s1, s2, hm, hmp, hd⟩ := hR'
  unfold D_X5_goesDeeper B_X5_goesDeeper_13 D_X12_goesIn
  rw [is_e, if_pos s1, bd_s, if_neg z10, gI_d μ 5 1, A.2.1, nI_1, gI_d ν 78 12, hd]
  by_cases q6 : d = 6
  · subst q6
    rw [if_neg (show ¬ nI 6 < 6 by decide), if_pos (show nI 6 = 6 from rfl), F1, bd0_s, F2, bd_s, zb_0, ck_t]
    exact Or.inl ⟨_, _, rfl, rfl, F3, RF.s5, RMR.s (Or.inr (Or.inl rfl))⟩
  · rw [if_pos (show nI d < 6 by rw [show (6 : Int32) = nI 6 from rfl]; exact nI_lt (by omega) (by omega)), if_neg (show ¬ nI d = 6 by rw [show (6 : Int32) = nI 6 from rfl, nI_eq (by omega) (by omega)]; omega), lt1, lt1, lt1, nI_1]
    rw [gI_d, sI_o _ _ (show (10 : Nat) ≠ 12 by decide), A.2.2, nI_1]
    refine Or.inr ⟨by omega, _, _, rfl, rfl, ⟨T.rm RF.s5 ((RMR.s (Or.inr (Or.inr rfl))).trans (RMR.s (Or.inl rfl))), ⟨by omega, sI_u _ _ _ _, sI_u _ _ _ _⟩, (sI_o _ _ (by decide)).trans s1, ?_, (sI_o _ _ (by decide)).trans hm, by omega, ?_⟩, RF.s5, (RMR.s (Or.inr (Or.inr rfl))).trans (RMR.s (Or.inl rfl)), sI_n _ _ _ (by decide)⟩
    · rw [sI_o _ _ (by decide), sI_o _ _ (by decide)]; exact s2
    · rw [sI_o _ _ (by decide), sI_u]
theorem RY.up {B b0 n d k m p : Nat} {μ ν : gs_M} (hd6 : d ≤ 6) (hR : RY B b0 n (d + 1) k m p μ ν) : RY B b0 n d k m p μ (sI ν 78 12 (gI ν 78 12 - 1)) := by
  obtain ⟨T, A, s1, s2, hm, hmp, hd⟩ := hR
  rw [gI_d, hd, nI_m1 (by omega), Nat.add_sub_cancel]
  exact ⟨T.rm RF.refl (RMR.s (Or.inr (Or.inr rfl))), ⟨A.1, A.2.1, (sI_o _ _ (by decide)).trans A.2.2⟩, s1, (sI_o _ _ (by decide)).trans s2, hm, hmp, sI_u _ _ _ _⟩
theorem FLT.up {n : Nat} {μ ν : gs_M} {x : Int32} (h : FLT n μ ν) : FLT n μ (sI ν 78 12 x) := by
  obtain ⟨q, h1, h2⟩ := h
  exact ⟨q, h1, (sI_o _ _ (by decide)).trans h2⟩
theorem EV.not {ν μ μ' : gs_M} {m m' : Nat} {y v : Int32} (h1 : m ≤ m') (hy : EV ν μ m m' y) (hc : ∀ j, j < m' → μ'.1 6 j = μ.1 6 j) (hop : μ'.1 6 m' = -33) (hv : v = if y = 0 then 1 else 0) : EV ν μ' m (m' + 1) v := by
  intro hL
  obtain ⟨y1, y2, y3⟩ := hy hL
  refine ⟨by rw [hv]; split <;> (unfold BD; decide), fun s => ?_, fun j j1 j2 => ?_⟩
  · rw [show m' + 1 - m = (m' - m) + 1 by omega, runN_add, runN_code (code := μ.1 6) (code' := μ'.1 6) (m' - m) m s (fun j j1 j2 => hc j (by omega)), y2, show m + (m' - m) = m' by omega]
    show run1 (Lm ν) (μ'.1 6 m') (y :: s) = v :: s
    rw [hop, hv]
    unfold run1
    rw [if_pos (by decide), if_pos (by decide), if_pos rfl]
    rfl
  · by_cases q : j < m'
    · rw [hc j q]; exact y3 j j1 q
    · rw [show j = m' by omega, hop]
      exact okc_b (g := 33) (by omega)
/-- a unit at depth d -/
theorem ui_e {B b0 n d N M : Nat} (hd6 : d ≤ 6) (hU : d < 6 → VZ B b0 n (d + 1) (RD N 0 (nI (d + 1))) (MD M 4 0 0)) (hC : d < 6 → VZ B b0 n (d + 1) (fun μ => bd0 (RD N 0 (nI (d + 1)) μ) (fun u => RD N 1 (nI (d + 1)) u)) (MD M 6 0 0)) (hS : VZ B b0 n d (fun μ => bd0 (RD N 4 (nI d) μ) (fun u => RD N 3 (nI d) u)) (MD M 3 0 0)) : VZ B b0 n d (RD (N + 1) 0 (nI d)) (MD (M + 1) 4 0 0) := by
  intro k m p μ ν hR
  show ∃ (v : Int32) (μ' ν' : gs_M), O_X5_readUnit (RD N) (nI d) μ = some μ' ∧ O_X12_unit (MD M) ν = some (v, ν') ∧ _
  unfold O_X5_readUnit O_X12_unit
  obtain ⟨g, p', μ1, ν1, t0, t1, t2, t3, t4, t5, t6, t7, t8, t9⟩ := hR.nx
  rw [t1, bd_s, t2, bd_s]
  by_cases q1 : g = 33
  · have hp : p' < n := by
      rcases t9 with ⟨-, e⟩ | ⟨e, -⟩
      · exfalso
        rw [e] at q1
        revert q1
        decide
      · exact e
    rw [if_pos q1, if_pos q1]
    rcases gd_e hd6 t3 hp with ⟨μ2, ν2, u1, u2, u3, u4, u5⟩ | ⟨hd, μ2, ν2, u1, u2, u3, u4, u5, u6⟩
    · rw [u1, bd_s, if_pos rfl, u2, bd_s, if_pos rfl]
      exact ⟨0, _, _, rfl, rfl, t4.trans u4, t5.trans u5, Or.inl rfl, Or.inl u3⟩
    · rw [u1, bd_s, if_neg z10, u2, bd_s, if_neg z10, nI_1]
      obtain ⟨w, μ3, ν3, v1, v2, v3, v4, vz, v5⟩ := hU hd (k + 1) m (p' + 1) μ2 ν2 u3
      rw [v1, bd0_s, v2, bd_s, lt1]
      have hm : (if w = 0 then some ((1 : Int32), sI ν3 78 12 (gI ν3 78 12 - 1)) else some ((0 : Int32), sI ν3 78 12 (gI ν3 78 12 - 1))) = some (if w = 0 then 1 else 0, sI ν3 78 12 (gI ν3 78 12 - 1)) := by
        split <;> rfl
      have hz : Z1 (if w = 0 then 1 else 0) := by
        unfold Z1
        split
        · exact Or.inr rfl
        · exact Or.inl rfl
      rw [hm]
      have C3 : RF μ μ3 := t4.trans (u4.trans v3)
      have M3 : RMR ν (sI ν3 78 12 (gI ν3 78 12 - 1)) := t5.trans (u5.trans (v4.trans (RMR.s (Or.inr (Or.inr rfl)))))
      rcases v5 with hF | ⟨m2, p2, w1, w2, w3, w4, w5⟩
      · have hFu := hF.up (x := gI ν3 78 12 - 1)
        obtain ⟨qf, hUU, hq⟩ := hFu
        obtain ⟨μ4, y1, y2, y3⟩ := un_put hUU (-33)
        rw [y1, bd0_s]
        exact ⟨_, μ4, _, rfl, rfl, C3.trans y3, M3, hz, Or.inl ⟨qf, y2, hq⟩⟩
      · obtain ⟨y1, y2, y3, y4, y5⟩ := (w3.up hd6).put (-33)
        rw [y1, bd0_s]
        refine ⟨_, _, _, rfl, rfl, C3.trans y3, M3, hz, Or.inr ⟨m2 + 1, p2, by omega, by omega, y2, fun j hj => by rw [y5 j (by omega), w4 j hj, u6, t6], ?_⟩⟩
        exact EV.not w1 (EV.nu (t5.trans u5) w5) (fun j hj => y5 j (by omega)) y4 rfl
  rw [if_neg q1, if_neg q1]
  by_cases q2 : g = 40
  · have hp : p' < n := by
      rcases t9 with ⟨-, e⟩ | ⟨e, -⟩
      · exfalso
        rw [e] at q2
        revert q2
        decide
      · exact e
    rw [if_pos q2, if_pos q2]
    rcases gd_e hd6 t3 hp with ⟨μ2, ν2, u1, u2, u3, u4, u5⟩ | ⟨hd, μ2, ν2, u1, u2, u3, u4, u5, u6⟩
    · rw [u1, bd_s, if_pos rfl, u2, bd_s, if_pos rfl]
      exact ⟨0, _, _, rfl, rfl, t4.trans u4, t5.trans u5, Or.inl rfl, Or.inl u3⟩
    · rw [u1, bd_s, if_neg z10, u2, bd_s, if_neg z10, nI_1]
      obtain ⟨w, μ3, ν3, v1, v2, v3, v4, vz, v5⟩ := hC hd (k + 1) m (p' + 1) μ2 ν2 u3
      have v1' : bd0 (RD N 0 (nI (d + 1)) μ2) (fun u => RD N 1 (nI (d + 1)) u) = some μ3 := v1
      rw [bd0_a, v1', bd0_s, v2, bd_s]
      have C3 : RF μ μ3 := t4.trans (u4.trans v3)
      have M3 : RMR ν ν3 := t5.trans (u5.trans v4)
      rcases v5 with hF | ⟨m2, p2, w1, w2, w3, w4, w5⟩
      · obtain ⟨x1, x2⟩ := tk_f hF 41
        rw [x1, bd0_s, x2, bd_s, if_pos rfl]
        exact ⟨0, _, _, rfl, rfl, C3, M3, Or.inl rfl, Or.inl hF⟩
      · obtain ⟨r, μ4, ν4, x1, x2, x3, x4, x5, x6⟩ := tk_e (x := 41) (by decide) w3
        rw [x1, bd0_s, x2, bd_s]
        rcases x6 with ⟨rfl, hF⟩ | ⟨rfl, p3, hp3, R3⟩
        · rw [if_pos rfl]
          exact ⟨0, _, _, rfl, rfl, C3.trans x3, M3.trans x4, Or.inl rfl, Or.inl hF⟩
        · rw [if_neg z10, lt1, vz.z, ck_t]
          have R4 := R3.up hd6
          have hmp := w3.2.2.2.2.2.1
          refine ⟨w, _, _, rfl, rfl, C3.trans x3, M3.trans (x4.trans (RMR.s (Or.inr (Or.inr rfl)))), vz, Or.inr ⟨m2, p3, w1, by omega, R4.slack (by omega), fun j hj => by rw [x5, w4 j hj, u6, t6], ?_⟩⟩
          exact (EV.nu (t5.trans u5) w5).mu (fun j _ => by rw [x5])
  rw [if_neg q2, if_neg q2]
  obtain ⟨w, μ3, ν3, v1, v2, v3, v4, vz, v5⟩ := hS k m p' μ1 ν1 t3
  have v1' : bd0 (RD N 4 (nI d) μ1) (fun u => RD N 3 (nI d) u) = some μ3 := v1
  rw [bd0_a, v1', bd0_s, v2, bd_s, vz.z, ck_t]
  refine ⟨w, μ3, ν3, rfl, rfl, t4.trans v3, t5.trans v4, vz, ?_⟩
  rcases v5 with hF | ⟨m2, p2, w1, w2, w3, w4, w5⟩
  · exact Or.inl hF
  · exact Or.inr ⟨m2, p2, w1, by omega, w3, fun j hj => by rw [w4 j hj, t6], w5.nu t5⟩
/-- what a unit gives of the rest of its condition -/
theorem rs_e {B b0 n d f : Nat} (hU : ∀ N M, f ≤ N → f ≤ M → VZ B b0 n d (RD N 0 (nI d)) (MD M 4 0 0)) : (∀ N M, f + 2 ≤ N → f ≤ M → VB B b0 n d Z1 (RD N 1 (nI d)) (QN M)) ∧ (∀ N M, f + 2 ≤ N → f + 2 ≤ M → VZ B b0 n d (fun μ => bd0 (RD N 0 (nI d) μ) (fun u => RD N 1 (nI d) u)) (MD M 6 0 0)) := by
  have h1 : ∀ N M, f + 2 ≤ N → f ≤ M → VB B b0 n d Z1 (RD N 1 (nI d)) (QN M) := by
    intro N M hN hM
    obtain ⟨N, rfl⟩ : ∃ m, N = m + 2 := ⟨N - 2, by omega⟩
    have T := to_e (hU N M (by omega) hM)
    exact co_e T (pa_e (hU (N + 1) M (by omega) hM) T)
  refine ⟨h1, fun N M hN hM => ?_⟩
  obtain ⟨N, rfl⟩ : ∃ m, N = m + 2 := ⟨N - 2, by omega⟩
  obtain ⟨M, rfl⟩ : ∃ m, M = m + 2 := ⟨M - 2, by omega⟩
  exact cd_e (hU (N + 2) M (by omega) (by omega)) (h1 (N + 2) M (by omega) (by omega))
theorem vu_e {B b0 n : Nat} : ∀ (e d : Nat), e + d = 6 → ∀ N M, 3 * e + 5 ≤ N → 3 * e + 5 ≤ M → VZ B b0 n d (RD N 0 (nI d)) (MD M 4 0 0) := by
  intro e
  induction e with
  | zero =>
    intro d hd N M hN hM
    obtain ⟨N, rfl⟩ : ∃ m, N = m + 1 + 1 := ⟨N - 2, by omega⟩
    obtain ⟨M, rfl⟩ : ∃ m, M = m + 1 + 1 := ⟨M - 2, by omega⟩
    exact ui_e (by omega) (fun h => by omega) (fun h => by omega) (usr_e (vs_e 0 d (N + 1) M hd (by omega) (by omega)) (vs_e 0 d N M hd (by omega) (by omega)))
  | succ e ih =>
    intro d hd N M hN hM
    obtain ⟨N, rfl⟩ : ∃ m, N = m + 1 + 1 := ⟨N - 2, by omega⟩
    obtain ⟨M, rfl⟩ : ∃ m, M = m + 1 + 1 := ⟨M - 2, by omega⟩
    have ih1 := ih (d + 1) (by omega)
    exact ui_e (by omega) (fun h => ih1 (N + 1) (M + 1) (by omega) (by omega)) (fun h => (rs_e ih1).2 (N + 1) (M + 1) (by omega) (by omega)) (usr_e (vs_e (e + 1) d (N + 1) M hd (by omega) (by omega)) (vs_e (e + 1) d N M hd (by omega) (by omega)))
