/-! reading rules: the class alone, after a fault -/
def TC (n : Nat) (μ : gs_M) : Prop := n ≤ 160 ∧ μ.1 1 1 = nI n ∧ ∀ j, j < n → ∃ s, 1 ≤ s ∧ s ≤ 255 ∧ μ.1 2 j = nI s
theorem TX.tc {B b0 n : Nat} {μ ν : gs_M} (h : TX B b0 n μ ν) : TC n μ :=
  ⟨h.1, h.2.1, fun j hj => by obtain ⟨s, s1, s2, s3, -⟩ := h.2.2.2.2.2.2 j hj; exact ⟨s, s1, s2, s3⟩⟩
/-- a model's memory that reads the same -/
def fk0 (n p : Nat) (μ : gs_M) : gs_M := (fun b j => if b = 78 then (if j = 5 then nI 79 else if j = 8 then nI 0 else if j = 9 then nI n else if j = 10 then nI p else -1) else by8 (μ.1 2 j).toNatClampNeg, fun _ _ => 0)
theorem TC.tx {n : Nat} {μ : gs_M} (h : TC n μ) (p : Nat) : TX 79 0 n μ (fk0 n p μ) ∧ (fk0 n p μ).1 78 10 = nI p ∧ (fk0 n p μ).1 78 11 = -1 := by
  refine ⟨⟨h.1, h.2.1, rfl, rfl, rfl, Or.inl ⟨rfl, rfl⟩, fun j hj => ?_⟩, rfl, rfl⟩
  obtain ⟨s, s1, s2, s3⟩ := h.2.2 j hj
  refine ⟨s, s1, s2, s3, ?_⟩
  show by8 (μ.1 2 (0 + j)).toNatClampNeg = by8 s
  rw [Nat.zero_add, s3, nI_clamp (by omega)]
def RF (μ μ' : gs_M) : Prop := (∀ b, b ≠ 5 → b ≠ 6 → μ'.1 b = μ.1 b) ∧ μ'.2 = μ.2
theorem RF.refl {μ : gs_M} : RF μ μ := ⟨fun _ _ _ => rfl, rfl⟩
theorem RF.trans {μ0 μ1 μ2 : gs_M} (h : RF μ0 μ1) (g : RF μ1 μ2) : RF μ0 μ2 := ⟨fun b b1 b2 => (g.1 b b1 b2).trans (h.1 b b1 b2), g.2.trans h.2⟩
theorem RF.s5 {μ : gs_M} {j : Nat} {v : Int32} : RF μ (sI μ 5 j v) := ⟨fun b b1 _ => sI_n _ _ _ b1, rfl⟩
theorem RF.s6 {μ : gs_M} {j : Nat} {v : Int32} : RF μ (sI μ 6 j v) := ⟨fun b _ b2 => sI_n _ _ _ b2, rfl⟩
theorem RC.rf {μ μ' : gs_M} (h : RC 5 μ μ') : RF μ μ' := ⟨fun b b1 _ => h.1 b b1, h.2.2⟩
theorem TC.go {n : Nat} {μ μ' : gs_M} (h : TC n μ) (hf : RF μ μ') : TC n μ' := by
  unfold TC at *
  rw [hf.1 1 (by decide) (by decide), hf.1 2 (by decide) (by decide)]
  exact h
/-- the class's reading is at fault -/
def UN (q n : Nat) (μ : gs_M) : Prop := q ≤ 160 ∧ μ.1 5 2 = nI q ∧ TC n μ ∧ (∃ p, p ≤ n ∧ μ.1 5 1 = nI p) ∧ ∃ m, m ≤ 160 ∧ μ.1 5 4 = nI m
theorem un_next {q n : Nat} {μ : gs_M} (h : UN q n μ) : ∃ (g : Int32) (μ' : gs_M), D_X4_next 5 μ = some (g, μ') ∧ UN q n μ' ∧ RF μ μ' ∧ (g = -1 ∨ ∃ p, p < n ∧ μ'.1 5 1 = nI p) := by
  obtain ⟨h1, h2, h3, ⟨p, p1, p2⟩, m, m1, m2⟩ := h
  obtain ⟨T, k10, k11⟩ := h3.tx p
  obtain ⟨g, p', μ', ν', t0, t1, t2, t3, t4, t5, t6, t7, t8⟩ := nx_e (a0 := 5) (Or.inr rfl) T ⟨p1, p2, k10⟩
  refine ⟨g, μ', t1, ⟨h1, t6.trans h2, h3.go t4.rf, ⟨p', t3.1, t3.2.1⟩, m, m1, (t4.2.1 4 (by decide) (by decide)).trans m2⟩, t4.rf, ?_⟩
  rcases t8 with ⟨-, e⟩ | ⟨e, -⟩
  · exact Or.inl e
  · exact Or.inr ⟨p', e, t3.2.1⟩
theorem UN.ns {q n : Nat} {μ : gs_M} (h : UN q n μ) : ¬ μ.1 5 2 = -1 := by rw [h.2.1]; exact nI_nm1 (by have := h.1; omega)
theorem un_fail {q n : Nat} {μ : gs_M} (h : UN q n μ) (x : Int32) : D_X4_failAt 5 x μ = some μ := by
  unfold D_X4_failAt
  rw [gI_d, if_neg h.ns]
theorem un_accept {q n : Nat} {μ : gs_M} (h : UN q n μ) (x : Int32) : D_X4_accept 5 x μ = some (0, μ) := by
  unfold D_X4_accept
  rw [gI_d, if_neg h.ns]
theorem un_expect {q n : Nat} {μ : gs_M} (h : UN q n μ) (x : Int32) : D_X4_expect 5 x μ = some μ := by
  unfold D_X4_expect
  rw [un_accept h, bd_s, if_pos rfl, un_fail h, bd0_s]
theorem un_sound {q n : Nat} {μ : gs_M} (h : UN q n μ) : D_X4_isSound 5 μ = some (0, μ) := by
  rw [is_e, if_neg h.ns]
theorem un_deeper {q n : Nat} {μ : gs_M} (h : UN q n μ) (x : Int32) : D_X5_goesDeeper x μ = some (0, μ) := by
  unfold D_X5_goesDeeper B_X5_goesDeeper_13
  rw [un_sound h, bd_s, if_pos rfl, un_fail h, bd0_s]
/-- what is put into the code -/
theorem pt_e {m : Nat} {μ : gs_M} (hm : m ≤ 160) (h : μ.1 5 4 = nI m) (x : Int32) : D_X5_put x μ = some (if m < 160 then sI (sI μ 6 m x) 5 4 (nI (m + 1)) else μ) := by
  unfold D_X5_put
  rw [gI_d, h]
  by_cases q : m < 160
  · rw [if_neg (show ¬ (160 : Int32) ≤ nI m by rw [show (160 : Int32) = nI 160 from rfl]; exact nI_ge (by omega) (by omega)), inb_n q (by decide), ck_t, nI_clamp (by omega), lt1, lt1, gI_d, sI_n _ _ _ (by decide), h, nI_1, if_pos q]
  · rw [if_pos (show (160 : Int32) ≤ nI m by rw [show (160 : Int32) = nI 160 from rfl]; exact nI_le (by omega) (by omega)), if_neg q]
theorem un_put {q n : Nat} {μ : gs_M} (h : UN q n μ) (x : Int32) : ∃ μ', D_X5_put x μ = some μ' ∧ UN q n μ' ∧ RF μ μ' := by
  obtain ⟨h1, h2, h3, ⟨p, p1, p2⟩, m, m1, m2⟩ := h
  rw [pt_e m1 m2]
  by_cases qm : m < 160
  · rw [if_pos qm]
    have hf : RF μ (sI (sI μ 6 m x) 5 4 (nI (m + 1))) := RF.s6.trans RF.s5
    refine ⟨_, rfl, ⟨h1, ?_, h3.go hf, ⟨p, p1, ?_⟩, m + 1, by omega, sI_u _ _ _ _⟩, hf⟩
    · rw [sI_o _ _ (by decide), sI_n _ _ _ (by decide)]; exact h2
    · rw [sI_o _ _ (by decide), sI_n _ _ _ (by decide)]; exact p2
  · rw [if_neg qm]
    exact ⟨_, rfl, ⟨h1, h2, h3, ⟨p, p1, p2⟩, m, m1, m2⟩, RF.refl⟩
theorem un_move {q n p : Nat} {μ : gs_M} (h : UN q n μ) (hp : p ≤ n) : UN q n (sI μ 5 1 (nI p)) := by
  obtain ⟨h1, h2, h3, -, m, m1, m2⟩ := h
  exact ⟨h1, (sI_o _ _ (by decide)).trans h2, h3.go RF.s5, ⟨p, hp, sI_u _ _ _ _⟩, m, m1, (sI_o _ _ (by decide)).trans m2⟩
theorem un_dloop {q n : Nat} : ∀ (k c fu : Nat) (v : Int32) (μ : gs_M), c + k = 5 → k < fu → UN q n μ → ∃ (r : Int32) (μ' : gs_M), L_X4_digits_9 fu 5 4 v (nI c) μ = some (r, μ') ∧ UN q n μ' ∧ RF μ μ' := by
  intro k
  induction k with
  | zero =>
    intro c fu v μ hc hf h
    obtain ⟨fu, rfl⟩ : ∃ m, fu = m + 1 := ⟨fu - 1, by omega⟩
    refine ⟨v, μ, ?_, h, RF.refl⟩
    show Bo_X4_digits_9 _ _ _ _ _ _ = _
    unfold Bo_X4_digits_9 B_X4_digits_86
    rw [if_pos (show (4 : Int32) < nI c by rw [show (4 : Int32) = nI 4 from rfl]; exact nI_lt (by omega) (by omega)), if_neg (nI_ne0 (by omega) (by omega))]
  | succ k ih =>
    intro c fu v μ hc hf h
    obtain ⟨fu, rfl⟩ : ∃ m, fu = m + 1 := ⟨fu - 1, by omega⟩
    have h' := h
    obtain ⟨h1, h2, h3, ⟨p, p1, p2⟩, m, m1, m2⟩ := h'
    obtain ⟨T, k10, k11⟩ := h3.tx p
    obtain ⟨g, g1, -, g3⟩ := dt_e (a0 := 5) T ⟨p1, p2, k10⟩
    have e : L_X4_digits_9 (fu + 1) 5 4 v (nI c) μ = if inN g 48 57 = 0 then some (v, μ) else (if nI c = 4 then some (v, μ) else L_X4_digits_9 fu 5 4 (v * 10 + g - 48) (nI (c + 1)) (sI μ 5 1 (nI (p + 1)))) := by
      show Bo_X4_digits_9 _ _ _ _ _ _ = _
      unfold Bo_X4_digits_9 B_X4_digits_86
      rw [if_neg (show ¬ (4 : Int32) < nI c by rw [show (4 : Int32) = nI 4 from rfl]; exact nI_nlt (by omega) (by omega)), gI_d μ 5 1, p2, g1, bd_s, wi_e, bd_s, gI_d μ 5 1, p2, un_fail h, bd0_s, g1, bd_s, lt1, lt1, gI_d μ 5 1, p2, nI_1, nI_1, ite_self]
    rw [e]
    rcases g3 with z | ⟨z, hp, -⟩
    · rw [if_pos z]
      exact ⟨v, μ, rfl, h, RF.refl⟩
    · rw [z, if_neg z10]
      by_cases q4 : nI c = 4
      · rw [if_pos q4]
        exact ⟨v, μ, rfl, h, RF.refl⟩
      · rw [if_neg q4]
        obtain ⟨r, μ', t1, t2, t3⟩ := ih (c + 1) fu (v * 10 + g - 48) (sI μ 5 1 (nI (p + 1))) (by omega) (by omega) (un_move h (by omega))
        exact ⟨r, μ', t1, t2, RF.s5.trans t3⟩
theorem un_digits {q n : Nat} {μ : gs_M} (h : UN q n μ) : ∃ (r : Int32) (μ' : gs_M), D_X4_digits 5 4 μ = some (r, μ') ∧ UN q n μ' ∧ RF μ μ' := by
  obtain ⟨g, μ1, t1, t2, t3, -⟩ := un_next h
  obtain ⟨r, μ', u1, u2, u3⟩ := un_dloop 5 0 4096 0 μ1 (by omega) (by omega) t2
  refine ⟨r, μ', ?_, u2, t3.trans u3⟩
  unfold D_X4_digits
  rw [t1, bd_s]
  exact u1
/-! the letters of rules -/
def ltr (g : Int32) : Int32 := if (108 : Int32) = g then 0 else if (100 : Int32) = g then 1 else if (115 : Int32) = g then 2 else if (119 : Int32) = g then 3 else if (98 : Int32) = g then 4 else if (109 : Int32) = g then 5 else -1
theorem ltr_s {fu j : Nat} {g : Int32} {μ : gs_M} (hj : j < 6) : L_X6_letterOf_2 (fu + 1) g (nI j) μ = if cA 4 j = g then some (nI j, μ) else L_X6_letterOf_2 fu g (nI (j + 1)) μ := by
  show Bo_X6_letterOf_2 _ _ _ _ = _
  unfold Bo_X6_letterOf_2
  rw [if_neg (show ¬ (6 : Int32) ≤ nI j by rw [show (6 : Int32) = nI 6 from rfl]; exact nI_ge (by omega) (by omega)), inb_n hj (by decide), ck_t, nI_clamp (by omega), nI_1]
theorem ltr_6 {fu : Nat} {g : Int32} {μ : gs_M} : L_X6_letterOf_2 (fu + 1) g (nI 6) μ = some (-1, μ) := by
  show Bo_X6_letterOf_2 _ _ _ _ = _
  unfold Bo_X6_letterOf_2
  rw [if_pos (by decide)]
theorem ltr_e (g : Int32) (μ : gs_M) : D_X6_letterOf g μ = some (ltr g, μ) := by
  show L_X6_letterOf_2 (4089 + 1 + 1 + 1 + 1 + 1 + 1 + 1) g (nI 0) μ = _
  rw [ltr_s (by decide), ltr_s (by decide), ltr_s (by decide), ltr_s (by decide), ltr_s (by decide), ltr_s (by decide), ltr_6]
  rw [show cA 4 0 = 108 from rfl, show cA 4 (0 + 1) = 100 from rfl, show cA 4 (0 + 1 + 1) = 115 from rfl, show cA 4 (0 + 1 + 1 + 1) = 119 from rfl, show cA 4 (0 + 1 + 1 + 1 + 1) = 98 from rfl, show cA 4 (0 + 1 + 1 + 1 + 1 + 1) = 109 from rfl]
  unfold ltr
  repeat' split
  all_goals rfl
theorem ltr_m1 : ltr (-1) = -1 := by decide
/-! the readers of rules, at fault -/
def UG (q n : Nat) (μ : gs_M) (X : Option gs_M) : Prop := ∃ μ', X = some μ' ∧ UN q n μ' ∧ RF μ μ'
theorem un_atom {q n N : Nat} {μ : gs_M} (h : UN q n μ) (d : Int32) : UG q n μ (RD (N + 1) 6 d μ) := by
  show UG q n μ (O_X5_readAtom (RD N) d μ)
  unfold O_X5_readAtom
  obtain ⟨g, μ1, t1, t2, t3, t4⟩ := un_next h
  rw [t1, bd_s, wi_e, bd_s, ltr_e, bd_s, un_deeper t2, bd_s, if_pos (show (0 : Int32) = 0 from rfl), un_fail t2, bd0_s, ite_self]
  obtain ⟨r, μ2, u1, u2, u3⟩ := un_digits t2
  rw [u1, bd_s]
  obtain ⟨μ3, v1, v2, v3⟩ := un_put u2 r
  rw [v1, bd0_s]
  by_cases q1 : inN g 48 57 = 0
  · rw [if_pos q1]
    by_cases q2 : ltr g = -1
    · rw [if_pos q2]
      exact ⟨_, rfl, t2, t3⟩
    · rw [if_neg q2, lt1]
      rcases t4 with rfl | ⟨p, p1, p2⟩
      · exact absurd ltr_m1 q2
      · rw [gI_d, p2, nI_1]
        obtain ⟨μ4, w1, w2, w3⟩ := un_put (un_move t2 (show p + 1 ≤ n by omega)) (-g)
        rw [w1, bd0_s]
        exact ⟨_, rfl, w2, t3.trans (RF.s5.trans w3)⟩
  · rw [if_neg q1]
    exact ⟨_, rfl, v2, t3.trans (u3.trans v3)⟩
theorem un_term {q n N : Nat} {μ : gs_M} (h : UN q n μ) (d : Int32) : UG q n μ (RD (N + 2) 5 d μ) := by
  show UG q n μ (O_X5_readTerm (RD (N + 1)) d μ)
  unfold O_X5_readTerm
  obtain ⟨μ1, t1, t2, t3⟩ := un_atom (N := N) h d
  rw [t1, bd0_s]
  refine ⟨μ1, ?_, t2, t3⟩
  show Bo_X5_readTerm_7 _ _ _ _ _ = _
  unfold Bo_X5_readTerm_7
  rw [if_neg (by decide), un_sound t2, bd_s, if_pos rfl]
theorem un_sum {q n N : Nat} {μ : gs_M} (h : UN q n μ) (d : Int32) : UG q n μ (RD (N + 3) 4 d μ) := by
  show UG q n μ (O_X5_readSum (RD (N + 2)) d μ)
  unfold O_X5_readSum
  obtain ⟨μ1, t1, t2, t3⟩ := un_term (N := N) h d
  rw [t1, bd0_s]
  refine ⟨μ1, ?_, t2, t3⟩
  show Bo_X5_readSum_7 _ _ _ _ _ = _
  unfold Bo_X5_readSum_7
  rw [if_neg (by decide), un_sound t2, bd_s, if_pos rfl]
theorem un_comp {q n N : Nat} {μ : gs_M} (h : UN q n μ) (d : Int32) : UG q n μ (RD (N + 1) 3 d μ) := by
  show UG q n μ (O_X5_readComparison (RD N) d μ)
  unfold O_X5_readComparison B_X5_readComparison_19
  obtain ⟨g, μ1, t1, t2, t3, t4⟩ := un_next h
  rw [t1, bd_s, un_sound t2, bd_s, if_pos rfl, un_fail t2, bd0_s]
  exact ⟨_, rfl, t2, t3⟩
theorem un_tl {q n fu : Nat} {μ : gs_M} {E : Nat → Int32 → gs_M → Option gs_M} (h : UN q n μ) (d : Int32) : L_X5_readTruthOn_2 E (fu + 1) d 0 μ = some μ := by
  show Bo_X5_readTruthOn_2 _ _ _ _ _ = _
  unfold Bo_X5_readTruthOn_2
  rw [if_neg (by decide), un_accept h, bd_s, if_pos rfl]
set_option maxRecDepth 20000 in
theorem rd_2 (N : Nat) (d : Int32) (μ : gs_M) : RD (N + 1) 2 d μ = O_X5_readTruthOn (RD N) d μ := rfl
theorem un_to {q n : Nat} {μ : gs_M} {E : Nat → Int32 → gs_M → Option gs_M} (h : UN q n μ) (d : Int32) : O_X5_readTruthOn E d μ = some μ := by
  unfold O_X5_readTruthOn
  have e : ∀ fu, fu = 4095 + 1 → L_X5_readTruthOn_2 E fu d 0 μ = some μ := fun fu hf => by rw [hf]; exact un_tl h d
  exact e 4096 rfl
theorem un_truth {q n N : Nat} {μ : gs_M} (h : UN q n μ) (d : Int32) : UG q n μ (RD (N + 1) 2 d μ) := by
  rw [rd_2]
  exact ⟨μ, un_to h d, h, RF.refl⟩
theorem un_cond {q n N : Nat} {μ : gs_M} (h : UN q n μ) (d : Int32) : UG q n μ (RD (N + 2) 1 d μ) := by
  show UG q n μ (O_X5_readConditionOn (RD (N + 1)) d μ)
  unfold O_X5_readConditionOn
  obtain ⟨μ1, t1, t2, t3⟩ := un_truth (N := N) h d
  rw [t1, bd0_s]
  refine ⟨μ1, ?_, t2, t3⟩
  show Bo_X5_readConditionOn_7 _ _ _ _ _ = _
  unfold Bo_X5_readConditionOn_7
  rw [if_neg (by decide), un_accept t2, bd_s, if_pos rfl]
theorem un_unit {q n N : Nat} {μ : gs_M} (h : UN q n μ) (d : Int32) : UG q n μ (RD (N + 4) 0 d μ) := by
  show UG q n μ (O_X5_readUnit (RD (N + 3)) d μ)
  unfold O_X5_readUnit
  obtain ⟨g, μ1, t1, t2, t3, t4⟩ := un_next h
  obtain ⟨μ2, u1, u2, u3⟩ := un_sum (N := N) t2 d
  obtain ⟨μ3, v1, v2, v3⟩ := un_comp (N := N + 2) u2 d
  rw [t1, bd_s, un_deeper t2, bd_s, bd_s, if_pos (show (0 : Int32) = 0 from rfl), u1, bd0_s, v1, bd0_s]
  by_cases q1 : g = 33
  · rw [if_pos q1]
    exact ⟨_, rfl, t2, t3⟩
  · rw [if_neg q1]
    by_cases q2 : g = 40
    · rw [if_pos q2]
      exact ⟨_, rfl, t2, t3⟩
    · rw [if_neg q2]
      exact ⟨_, rfl, v2, t3.trans (u3.trans v3)⟩
