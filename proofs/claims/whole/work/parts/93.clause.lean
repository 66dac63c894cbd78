/-! the worth of a code, over a list -/
def woN (L code : Nat → Int32) : Nat → Nat → Int32 → List Int32 → Int32
  | 0, _, _, _ => 0
  | n + 1, a, ap, s => if code a = -63 then woN L code n (a + 1) (if hdN s = 0 then 0 else 1) s.tail else if code a = -121 then (if ap = 0 then woN L code n (a + 1) 1 s.tail else hdN s) else woN L code n (a + 1) ap (run1 L (code a) s)
theorem woN_seg {L code : Nat → Int32} {n : Nat} {ap : Int32} : ∀ (k a : Nat) (s : List Int32), (∀ j, a ≤ j → j < a + k → OKc (code j)) → woN L code (k + n) a ap s = woN L code n (a + k) ap (runN L code a k s)
  | 0, a, s, _ => by rw [Nat.zero_add]; rfl
  | k + 1, a, s, h => by
    have h0 := h a (by omega) (by omega)
    rw [show k + 1 + n = (k + n) + 1 by omega]
    show (if code a = -63 then _ else if code a = -121 then _ else woN L code (k + n) (a + 1) ap (run1 L (code a) s)) = _
    rw [if_neg h0.1, if_neg h0.2, woN_seg k (a + 1) _ (fun j j1 j2 => h j (by omega) (by omega)), show a + 1 + k = a + (k + 1) by omega]
    rfl
theorem woN_y {L code : Nat → Int32} {n a : Nat} {ap : Int32} {s : List Int32} (h : code a = -121) : woN L code (n + 1) a ap s = if ap = 0 then woN L code n (a + 1) 1 s.tail else hdN s := by
  show (if code a = -63 then _ else if code a = -121 then _ else _) = _
  rw [if_neg (by rw [h]; decide), if_pos h]
theorem woN_q {L code : Nat → Int32} {n a : Nat} {ap : Int32} {s : List Int32} (h : code a = -63) : woN L code (n + 1) a ap s = woN L code n (a + 1) (if hdN s = 0 then 0 else 1) s.tail := by
  show (if code a = -63 then _ else _) = _
  rw [if_pos h]
/-- what the model has found is what the code is worth -/
def GF (ν μ : gs_M) (m : Nat) : Prop := LB ν → ((ν.1 78 17 = 1 ∧ ∀ (code : Nat → Int32) n', (∀ j, j < m → code j = μ.1 6 j) → woN (Lm ν) code (m + n') 0 1 [] = ν.1 78 14) ∨ (ν.1 78 17 = 0 ∧ ν.1 78 14 = 0 ∧ ∀ (code : Nat → Int32) n', (∀ j, j < m → code j = μ.1 6 j) → woN (Lm ν) code (m + n') 0 1 [] = woN (Lm ν) code n' m 1 []))
theorem GF.go {ν ν' μ μ' : gs_M} {m m' : Nat} {x v : Int32} (hmm : m ≤ m') (hG : GF ν μ m) (hL : Lm ν' = Lm ν) (hc : ∀ j, j < m → μ'.1 6 j = μ.1 6 j) (hS : LB ν → ∀ (code : Nat → Int32) n', (∀ j, j < m' → code j = μ'.1 6 j) → woN (Lm ν) code ((m' - m) + n') m 1 [] = if x = 0 then woN (Lm ν) code n' m' 1 [] else v) (h17 : ν'.1 78 17 = if ν.1 78 17 = 0 then (if x = 0 then 0 else 1) else ν.1 78 17) (h14 : ν'.1 78 14 = if ν.1 78 17 = 0 then (if x = 0 then ν.1 78 14 else v) else ν.1 78 14) : GF ν' μ' m' := by
  intro hLB
  have hLB' : LB ν := by
    unfold LB at *
    rw [hL] at hLB
    exact hLB
  rw [hL]
  rcases hG hLB' with ⟨a1, a2⟩ | ⟨a1, a2, a3⟩
  · rw [a1, if_neg z10] at h17 h14
    refine Or.inl ⟨h17, fun code n' hcd => ?_⟩
    rw [h14, show m' + n' = m + ((m' - m) + n') by omega]
    exact a2 code _ (fun j hj => (hcd j (by omega)).trans (hc j hj))
  · rw [if_pos a1] at h17 h14
    have key : ∀ (code : Nat → Int32) n', (∀ j, j < m' → code j = μ'.1 6 j) → woN (Lm ν) code (m' + n') 0 1 [] = if x = 0 then woN (Lm ν) code n' m' 1 [] else v := by
      intro code n' hcd
      rw [show m' + n' = m + ((m' - m) + n') by omega, a3 code _ (fun j hj => (hcd j (by omega)).trans (hc j hj))]
      exact hS hLB' code n' hcd
    by_cases q : x = 0
    · rw [if_pos q] at h17 h14
      refine Or.inr ⟨h17, h14.trans a2, fun code n' hcd => ?_⟩
      rw [key code n' hcd, if_pos q]
    · rw [if_neg q] at h17 h14
      refine Or.inl ⟨h17, fun code n' hcd => ?_⟩
      rw [key code n' hcd, if_neg q, h14]
/-- a clause's code: a sum alone -/
theorem cs_1 {ν μ : gs_M} {m m1 : Nat} {v : Int32} (h1 : m ≤ m1) (hv : EV ν μ m m1 v) (hy : μ.1 6 m1 = -121) : LB ν → ∀ (code : Nat → Int32) n', (∀ j, j < m1 + 1 → code j = μ.1 6 j) → woN (Lm ν) code ((m1 + 1 - m) + n') m 1 [] = if (1 : Int32) = 0 then woN (Lm ν) code n' (m1 + 1) 1 [] else v := by
  intro hL code n' hcd
  obtain ⟨-, v2, v3⟩ := hv hL
  rw [show m1 + 1 - m + n' = (m1 - m) + (n' + 1) by omega, woN_seg (m1 - m) m [] (fun j j1 j2 => by rw [hcd j (by omega)]; exact v3 j j1 (by omega)), runN_code (code := μ.1 6) (code' := code) (m1 - m) m [] (fun j j1 j2 => hcd j (by omega)), v2, show m + (m1 - m) = m1 by omega, woN_y (by rw [hcd m1 (by omega)]; exact hy), if_neg z10, if_neg z10]
  rfl
/-- a condition, then a sum -/
theorem cs_2 {ν μ : gs_M} {m m1 m2 : Nat} {x v : Int32} (hz : Z1 x) (h1 : m ≤ m1) (h2 : m1 + 1 ≤ m2) (hx : EV ν μ m m1 x) (hq : μ.1 6 m1 = -63) (hv : EV ν μ (m1 + 1) m2 v) (hy : μ.1 6 m2 = -121) : LB ν → ∀ (code : Nat → Int32) n', (∀ j, j < m2 + 1 → code j = μ.1 6 j) → woN (Lm ν) code ((m2 + 1 - m) + n') m 1 [] = if x = 0 then woN (Lm ν) code n' (m2 + 1) 1 [] else v := by
  intro hL code n' hcd
  obtain ⟨-, x2, x3⟩ := hx hL
  obtain ⟨-, v2, v3⟩ := hv hL
  rw [show m2 + 1 - m + n' = (m1 - m) + (((m2 - (m1 + 1)) + (n' + 1)) + 1) by omega, woN_seg (m1 - m) m [] (fun j j1 j2 => by rw [hcd j (by omega)]; exact x3 j j1 (by omega)), runN_code (code := μ.1 6) (code' := code) (m1 - m) m [] (fun j j1 j2 => hcd j (by omega)), x2, show m + (m1 - m) = m1 by omega, woN_q (by rw [hcd m1 (by omega)]; exact hq), show ([x] : List Int32).tail = [] from rfl, show hdN [x] = x from rfl]
  rw [woN_seg (m2 - (m1 + 1)) (m1 + 1) [] (fun j j1 j2 => by rw [hcd j (by omega)]; exact v3 j j1 (by omega)), runN_code (code := μ.1 6) (code' := code) (m2 - (m1 + 1)) (m1 + 1) [] (fun j j1 j2 => hcd j (by omega)), v2, show m1 + 1 + (m2 - (m1 + 1)) = m2 by omega, woN_y (by rw [hcd m2 (by omega)]; exact hy), show ([v] : List Int32).tail = [] from rfl, show hdN [v] = v from rfl]
  rcases hz with rfl | rfl
  · rw [if_pos rfl, if_pos rfl]
  · rw [if_neg z10, if_neg z10]
/-- what a clause leaves as it was in the model -/
def RMC (ν ν' : gs_M) : Prop := (∀ b, b ≠ 78 → ν'.1 b = ν.1 b) ∧ (∀ j, j ≠ 10 → j ≠ 11 → j ≠ 12 → j ≠ 14 → j ≠ 17 → ν'.1 78 j = ν.1 78 j) ∧ ν'.2 = ν.2
theorem RMC.refl {ν : gs_M} : RMC ν ν := ⟨fun _ _ => rfl, fun _ _ _ _ _ _ => rfl, rfl⟩
theorem RMC.trans {μ0 μ1 μ2 : gs_M} (h : RMC μ0 μ1) (g : RMC μ1 μ2) : RMC μ0 μ2 := ⟨fun b hb => (g.1 b hb).trans (h.1 b hb), fun j j1 j2 j3 j4 j5 => (g.2.1 j j1 j2 j3 j4 j5).trans (h.2.1 j j1 j2 j3 j4 j5), g.2.2.trans h.2.2⟩
theorem RMR.c {ν ν' : gs_M} (h : RMR ν ν') : RMC ν ν' := ⟨h.1, fun j j1 j2 j3 _ _ => h.2.1 j j1 j2 j3, h.2.2⟩
theorem RMC.s {j : Nat} {ν : gs_M} {v : Int32} (h : j = 10 ∨ j = 11 ∨ j = 12 ∨ j = 14 ∨ j = 17) : RMC ν (sI ν 78 j v) :=
  ⟨fun b hb => sI_n _ _ _ hb, fun i i1 i2 i3 i4 i5 => sI_o _ _ (by omega), rfl⟩
theorem Lm_c {ν ν' : gs_M} (h : RMC ν ν') : Lm ν' = Lm ν := by
  funext i
  unfold Lm
  rw [h.1 82 (by decide)]
theorem TX.rc {B b0 n : Nat} {μ ν μ' ν' : gs_M} (h : TX B b0 n μ ν) (hc : RF μ μ') (hm : RMC ν ν') : TX B b0 n μ' ν' := by
  have hB : B ≠ 78 := by have := h.2.2.2.2.2.1; omega
  exact h.go (hc.1 _ (by decide) (by decide)) (hc.1 _ (by decide) (by decide)) (hm.2.1 _ (by decide) (by decide) (by decide) (by decide) (by decide)) (hm.2.1 _ (by decide) (by decide) (by decide) (by decide) (by decide)) (hm.2.1 _ (by decide) (by decide) (by decide) (by decide) (by decide)) (hm.1 _ hB)
theorem am_y (g : Int32) (ν : gs_M) : D_X12_isAmong 105 g ν = some (if (121 : Int32) = g then 1 else 0, ν) := by
  show Bo_X12_isAmong_2 (L_X12_isAmong_2 4095) 105 g (nI 0) ν = _
  unfold Bo_X12_isAmong_2
  rw [if_neg (by decide), show inb (nI 0) (gs_sl.getD (105 - 105) 0) = true from by decide, ck_t, show cS (105 - 105) (nI 0).toNatClampNeg = 121 from by decide]
  by_cases q : (121 : Int32) = g
  · rw [if_pos q, if_pos q]
  · rw [if_neg q, if_neg q]
    show Bo_X12_isAmong_2 (L_X12_isAmong_2 4094) 105 g (nI 1) ν = _
    unfold Bo_X12_isAmong_2
    rw [if_pos (by decide)]
/-- the clause's end in the model -/
def fnd (x v : Int32) (ν : gs_M) : gs_M := if ν.1 78 17 = 0 then (if x = 0 then ν else sI (sI ν 78 17 1) 78 14 v) else ν
theorem fd_e {x v : Int32} {ν : gs_M} (h11 : ν.1 78 11 = -1) (h13 : ν.1 78 13 = 121) : B_X12_clause_134 121 x v ν = some (fnd x v ν) := by
  unfold B_X12_clause_134 fnd
  rw [gI_d ν 78 11, if_pos h11, gI_d ν 78 17, gI_d ν 78 13, if_pos h13.symm, lt1, lt1]
  by_cases q : ν.1 78 17 = 0
  · rw [if_pos q, if_pos q]
    by_cases q2 : x = 0
    · rw [if_pos q2, if_pos q2]
    · rw [if_neg q2, if_neg q2]
  · rw [if_neg q, if_neg q]
theorem fd_f {y x v : Int32} {ν : gs_M} (h11 : ¬ ν.1 78 11 = -1) : B_X12_clause_134 y x v ν = some ν := by
  unfold B_X12_clause_134
  rw [gI_d ν 78 11, if_neg h11]
theorem fd_c (x v : Int32) (ν : gs_M) : RMC ν (fnd x v ν) := by
  unfold fnd
  split
  · split
    · exact RMC.refl
    · exact (RMC.s (by omega)).trans (RMC.s (by omega))
  · exact RMC.refl
theorem fd_i (x v : Int32) (ν : gs_M) {j : Nat} (h1 : j ≠ 14) (h2 : j ≠ 17) : (fnd x v ν).1 78 j = ν.1 78 j := by
  unfold fnd
  split
  · split
    · rfl
    · rw [sI_o _ _ h1, sI_o _ _ h2]
  · rfl
theorem fd_17 (x v : Int32) (ν : gs_M) : (fnd x v ν).1 78 17 = if ν.1 78 17 = 0 then (if x = 0 then 0 else 1) else ν.1 78 17 := by
  unfold fnd
  by_cases q : ν.1 78 17 = 0
  · rw [if_pos q, if_pos q]
    by_cases q2 : x = 0
    · rw [if_pos q2, if_pos q2]; exact q
    · rw [if_neg q2, if_neg q2, sI_o _ _ (by decide), sI_u]
  · rw [if_neg q, if_neg q]
theorem fd_14 (x v : Int32) (ν : gs_M) : (fnd x v ν).1 78 14 = if ν.1 78 17 = 0 then (if x = 0 then ν.1 78 14 else v) else ν.1 78 14 := by
  unfold fnd
  by_cases q : ν.1 78 17 = 0
  · rw [if_pos q, if_pos q]
    by_cases q2 : x = 0
    · rw [if_pos q2, if_pos q2]
    · rw [if_neg q2, if_neg q2, sI_u]
  · rw [if_neg q, if_neg q]
theorem RY.fd {B b0 n d k m p : Nat} {μ ν : gs_M} (h : RY B b0 n d k m p μ ν) (x v : Int32) : RY B b0 n d k m p μ (fnd x v ν) := by
  obtain ⟨T, A, s1, s2, hm, hmp, hd⟩ := h
  exact ⟨T.rc RF.refl (fd_c x v ν), ⟨A.1, A.2.1, (fd_i _ _ _ (by decide) (by decide)).trans A.2.2⟩, s1, (fd_i _ _ _ (by decide) (by decide)).trans s2, hm, hmp, (fd_i _ _ _ (by decide) (by decide)).trans hd⟩
def CLO (B b0 n m p : Nat) (μ ν μ' ν' : gs_M) : Prop := RF μ μ' ∧ RMC ν ν' ∧ (FLT n μ' ν' ∨ ∃ m' p', m ≤ m' ∧ p < p' ∧ RY B b0 n 0 0 m' p' μ' ν' ∧ (∀ j, j < m → μ'.1 6 j = μ.1 6 j) ∧ (GF ν μ m → GF ν' μ' m'))
/-- after a fault the class's clause goes on without effect -/
theorem un_74 {q n : Nat} {μ : gs_M} (h : UN q n μ) : UG q n μ (B_X5_readClause_74 μ) := by
  unfold B_X5_readClause_74
  rw [un_expect h, bd0_s]
  obtain ⟨μ1, t1, t2, t3⟩ := un_put h (-63)
  rw [t1, bd0_s]
  obtain ⟨μ2, u1, u2, u3⟩ := un_sum (N := 61) t2 0
  rw [show RD 64 4 0 μ1 = RD (61 + 3) 4 0 μ1 from rfl, u1, bd0_s]
  obtain ⟨μ3, v1, v2, v3⟩ := un_put u2 (-121)
  rw [v1, bd0_s]
  exact ⟨μ3, rfl, v2, t3.trans (u3.trans v3)⟩
theorem UG.b {q n : Nat} {μ : gs_M} {X : Option gs_M} {f : gs_M → Option gs_M} (h : UG q n μ X) (g : ∀ μ', UN q n μ' → UG q n μ' (f μ')) : UG q n μ (bd0 X f) := by
  obtain ⟨μ1, t1, t2, t3⟩ := h
  obtain ⟨μ2, u1, u2, u3⟩ := g μ1 t2
  rw [t1, bd0_s]
  exact ⟨μ2, u1, u2, t3.trans u3⟩
theorem un_pt {q n : Nat} {μ : gs_M} (h : UN q n μ) (x : Int32) : UG q n μ (D_X5_put x μ) := un_put h x
theorem UN.g {q n : Nat} {μ : gs_M} (h : UN q n μ) : UG q n μ (some μ) := ⟨μ, rfl, h, RF.refl⟩
theorem un_29 {q n : Nat} {μ : gs_M} (h : UN q n μ) : UG q n μ (B_X5_readClause_29 μ) := by
  unfold B_X5_readClause_29
  exact (un_unit (N := 60) h 0).b (fun μ1 h1 => (un_cond (N := 62) h1 0).b (fun μ2 h2 => un_74 h2))
def clS (u11 : gs_M) : Option gs_M := bd (D_X4_next 5 u11) (fun v14 u13 => bd (D_X5_isComparison v14 u13) (fun v17 u16 => if v17 = 0 then (bd0 (D_X5_put (-121 : Int32) u16) (fun u24 => some u24)) else (bd0 (RD 64 3 (0 : Int32) u16) (fun u20 => bd0 (RD 64 1 (0 : Int32) u20) (fun u22 => B_X5_readClause_74 u22)))))
def clR (u4 : gs_M) : Option gs_M := bd (D_X4_next 5 u4) (fun v7 u6 => if v7 = (33 : Int32) then (B_X5_readClause_29 u6) else (if v7 = (40 : Int32) then (B_X5_readClause_29 u6) else (bd0 (RD 64 4 (0 : Int32) u6) (fun u11 => clS u11))))
theorem clR_d (μ : gs_M) : D_X5_readClause μ = bd0 (D_X4_expect 5 121 μ) (fun u2 => bd0 (D_X4_expect 5 58 u2) (fun u4 => clR u4)) := by
  unfold D_X5_readClause clR clS
  rfl
theorem un_clS {q n : Nat} {μ : gs_M} (h : UN q n μ) : UG q n μ (clS μ) := by
  unfold clS
  obtain ⟨g, μ1, t1, t2, t3, t4⟩ := un_next h
  rw [t1, bd_s, ic_e, bd_s]
  have k : UG q n μ1 (if isc g = 0 then (bd0 (D_X5_put (-121 : Int32) μ1) (fun u24 => some u24)) else (bd0 (RD 64 3 (0 : Int32) μ1) (fun u20 => bd0 (RD 64 1 (0 : Int32) u20) (fun u22 => B_X5_readClause_74 u22)))) := by
    by_cases q0 : isc g = 0
    · rw [if_pos q0]
      exact (un_pt t2 _).b (fun _ h1 => h1.g)
    · rw [if_neg q0]
      exact (un_comp (N := 63) t2 0).b (fun μ1 h1 => (un_cond (N := 62) h1 0).b (fun μ2 h2 => un_74 h2))
  obtain ⟨μ2, u1, u2, u3⟩ := k
  exact ⟨μ2, u1, u2, t3.trans u3⟩
theorem un_clR {q n : Nat} {μ : gs_M} (h : UN q n μ) : UG q n μ (clR μ) := by
  unfold clR
  obtain ⟨g, μ1, t1, t2, t3, t4⟩ := un_next h
  rw [t1, bd_s]
  have k : UG q n μ1 (if g = (33 : Int32) then (B_X5_readClause_29 μ1) else (if g = (40 : Int32) then (B_X5_readClause_29 μ1) else (bd0 (RD 64 4 (0 : Int32) μ1) (fun u11 => clS u11)))) := by
    by_cases q0 : g = 33
    · rw [if_pos q0]; exact un_29 t2
    · rw [if_neg q0]
      by_cases q1 : g = 40
      · rw [if_pos q1]; exact un_29 t2
      · rw [if_neg q1]
        exact (un_sum (N := 61) t2 0).b (fun μ1 h1 => un_clS h1)
  obtain ⟨μ2, u1, u2, u3⟩ := k
  exact ⟨μ2, u1, u2, t3.trans u3⟩
theorem GF.nu {ν ν' μ : gs_M} {m : Nat} (h : RMR ν ν') (g : GF ν μ m) : GF ν' μ m := by
  unfold GF LB at *
  rw [Lm_nu h, h.2.1 17 (by decide) (by decide) (by decide), h.2.1 14 (by decide) (by decide) (by decide)]
  exact g
theorem hs_0 {B b0 n : Nat} : VK B b0 n 0 (RD 64 4 0) (MD 64 2 0 0) := vs_e 6 0 64 64 rfl (by omega) (by omega)
/-- the clause's rest behind its condition -/
def cl74 (x : Int32) (ν : gs_M) : Option gs_M := bd (D_X12_takes (63 : Int32) ν) (fun v6 u5 => if v6 = 0 then (some u5) else (bd (MD 64 2 0 0 u5) (fun v10 u9 => B_X12_clause_134 121 x v10 u9)))
theorem t74_e {B b0 n m p : Nat} {x : Int32} {μ0 μ ν : gs_M} (hz : Z1 x) (h13 : ν.1 78 13 = 121) (h : FLT n μ ν ∨ ∃ m1 p1, m ≤ m1 ∧ p ≤ p1 ∧ RY B b0 n 0 2 m1 p1 μ ν ∧ (∀ j, j < m → μ.1 6 j = μ0.1 6 j) ∧ EV ν μ m m1 x) : ∃ μ' ν', B_X5_readClause_74 μ = some μ' ∧ cl74 x ν = some ν' ∧ RF μ μ' ∧ RMC ν ν' ∧ (FLT n μ' ν' ∨ ∃ m' p', m ≤ m' ∧ p < p' ∧ RY B b0 n 0 0 m' p' μ' ν' ∧ (∀ j, j < m → μ'.1 6 j = μ0.1 6 j) ∧ (GF ν μ0 m → GF ν' μ' m')) := by
  rcases h with hF | ⟨m1, p1, h1, h2, hR, hc, hV⟩
  · obtain ⟨x1, x2⟩ := tk_f hF 63
    obtain ⟨qf, hU, hq⟩ := hF
    obtain ⟨μ1, y1, y2, y3⟩ := un_74 hU
    refine ⟨μ1, ν, y1, ?_, y3, RMC.refl, Or.inl ⟨qf, y2, hq⟩⟩
    unfold cl74
    rw [x2, bd_s, if_pos rfl]
  · unfold B_X5_readClause_74 cl74
    obtain ⟨r, μ1, ν1, x1, x2, x3, x4, x5, x6⟩ := tk_e (x := 63) (by decide) hR
    rw [x1, bd0_s, x2, bd_s]
    rcases x6 with ⟨rfl, hF⟩ | ⟨rfl, p2, hp2, R1⟩
    · rw [if_pos rfl]
      obtain ⟨qf, hU, hq⟩ := hF
      obtain ⟨μ2, y1, y2, y3⟩ := (un_pt hU (-63)).b (fun μ2 h2 => (un_sum (N := 61) h2 0).b (fun μ3 h3 => (un_pt h3 (-121)).b (fun _ h4 => h4.g)))
      exact ⟨μ2, ν1, y1, rfl, x3.trans y3, x4.c, Or.inl ⟨qf, y2, hq⟩⟩
    · rw [if_neg z10]
      obtain ⟨y1, y2, y3, y4, y5⟩ := R1.put (-63)
      rw [y1, bd0_s]
      obtain ⟨v, μ3, ν3, u1, u2, u3, u4, u5⟩ := hs_0 2 (m1 + 1) p2 _ _ y2
      rw [u1, bd0_s, u2, bd_s]
      have C3 : RF μ μ3 := x3.trans (y3.trans u3)
      have M3 : RMR ν ν3 := x4.trans u4
      rcases u5 with hF | ⟨m3, p3, w1, w2, w3, w4, w5⟩
      · rw [fd_f hF.n]
        obtain ⟨qf, hU, hq⟩ := hF
        obtain ⟨μ4, z1, z2, z3⟩ := (un_pt hU (-121)).b (fun _ h4 => h4.g)
        exact ⟨μ4, ν3, z1, rfl, C3.trans z3, M3.c, Or.inl ⟨qf, z2, hq⟩⟩
      · obtain ⟨z1, z2, z3, z4, z5⟩ := w3.put (-121)
        rw [z1, bd0_s, fd_e w3.2.2.2.1 ((M3.2.1 13 (by decide) (by decide) (by decide)).trans h13)]
        have hmp := z2.2.2.2.2.2.1
        have c1 : ∀ j, j < m1 → (sI (sI μ3 6 m3 (-121)) 5 4 (nI (m3 + 1))).1 6 j = μ.1 6 j := fun j hj => by rw [z5 j (by omega), w4 j (by omega), y5 j (by omega), x5]
        refine ⟨_, _, rfl, rfl, C3.trans z3, M3.c.trans (fd_c x v ν3), Or.inr ⟨m3 + 1, p3, by omega, by omega, (z2.fd x v).slack (by omega), fun j hj => by rw [c1 j (by omega), hc j hj], fun hG => ?_⟩⟩
        refine GF.go (x := x) (v := v) (show m ≤ m3 + 1 by omega) (hG.nu M3) (Lm_c (fd_c x v ν3)) (fun j hj => by rw [c1 j (by omega), hc j hj]) ?_ (fd_17 x v ν3) (fd_14 x v ν3)
        refine cs_2 hz h1 w1 ((hV.mu (fun j hj => c1 j (by omega))).nu2 M3) ?_ ?_ z4
        · rw [z5 m1 (by omega), w4 m1 (by omega), y4]
        · exact (w5.mu (fun j hj => z5 j (by omega))).nu2 u4
theorem cl_e {B b0 n m p : Nat} {μ ν : gs_M} (hR : RY B b0 n 0 0 m p μ ν) (h13 : ν.1 78 13 = 121) : ∃ μ' ν', D_X5_readClause μ = some μ' ∧ D_X12_clause ν = some ν' ∧ CLO B b0 n m p μ ν μ' ν' := by
  obtain ⟨g, p', μ1, ν1, t0, t1, t2, t3, t4, t5, t6, t7, t8, t9⟩ := hR.nx
  obtain ⟨F1, F2, F3⟩ := t3.flt
  have s1 := hR.2.2.1
  have A1 := t3.2.1
  have hmp := t3.2.2.2.2.2.1
  have cE : D_X4_expect 5 121 μ = if g = 121 then some (sI μ1 5 1 (nI (p' + 1))) else some (sI μ1 5 2 (nI p')) := by
    unfold D_X4_expect D_X4_accept
    rw [gI_d μ 5 2, if_pos s1, t1, bd_s, lt1, gI_d μ1 5 1, A1.2.1, nI_1]
    by_cases q : g = 121
    · rw [if_pos q, if_pos q, bd_s, if_neg z10]
    · rw [if_neg q, if_neg q, bd_s, if_pos rfl, gI_d μ1 5 1, A1.2.1, F1, bd0_s]
  rw [clR_d, cE]
  unfold D_X12_clause
  rw [t2, bd_s, am_y, bd_s]
  by_cases qy : g = 121
  · have hp : p' < n := by
      rcases t9 with ⟨-, e⟩ | ⟨e, -⟩
      · exfalso
        rw [e] at qy
        revert qy
        decide
      · exact e
    subst qy
    rw [if_pos rfl, bd0_s, if_pos rfl, if_neg z10, lt1, gI_d ν1 78 10, A1.2.2, nI_1]
    have R1 := t3.mv (p' := p' + 1) (k' := 1) (by omega) (by omega)
    obtain ⟨r, μ2, ν2, x1, x2, x3, x4, x5, x6⟩ := tk_e (x := 58) (by decide) R1
    rw [x1, bd0_s, x2, bd_s]
    have C2 : RF μ μ2 := t4.trans (RF.s5.trans x3)
    have M2 : RMR ν ν2 := t5.trans ((RMR.s (Or.inl rfl)).trans x4)
    have c2 : μ2.1 6 = μ.1 6 := by rw [x5, sI_n _ _ _ (by decide), t6]
    rcases x6 with ⟨rfl, hF⟩ | ⟨rfl, p2, hp2, R2⟩
    · rw [if_pos rfl]
      obtain ⟨qf, hU, hq⟩ := hF
      obtain ⟨μ3, y1, y2, y3⟩ := un_clR hU
      exact ⟨μ3, ν2, y1, rfl, C2.trans y3, M2.c, Or.inl ⟨qf, y2, hq⟩⟩
    · rw [if_neg z10]
      obtain ⟨g2, p3, μ3, ν3, y0, y1, y2, y3, y4, y5, y6, y7, y8, y9⟩ := R2.nx
      unfold clR
      rw [y1, bd_s, y2, bd_s]
      have C3 : RF μ μ3 := C2.trans y4
      have M3 : RMR ν ν3 := M2.trans y5
      have c3 : μ3.1 6 = μ.1 6 := y6.trans c2
      -- a condition that begins with ! or (
      have brB : ∃ μ' ν', B_X5_readClause_29 μ3 = some μ' ∧ B_X12_clause_64 121 ν3 = some ν' ∧ CLO B b0 n m p μ ν μ' ν' := by
        have hc : VZ B b0 n 0 (fun μ => bd0 (RD 64 0 0 μ) (fun u => RD 64 1 0 u)) (MD 64 6 0 0) := (rs_e (f := 23) (vu_e 6 0 rfl)).2 64 64 (by omega) (by omega)
        obtain ⟨x, μ4, ν4, z1, z2, z3, z4, zz, z5⟩ := hc 2 m p3 μ3 ν3 y3
        have z1' : bd0 (RD 64 0 0 μ3) (fun u => RD 64 1 0 u) = some μ4 := z1
        have M4 : RMR ν ν4 := M3.trans z4
        obtain ⟨μ5, ν5, k1, k2, k3, k4, k5⟩ := t74_e (B := B) (b0 := b0) (m := m) (p := p) (μ0 := μ) (μ := μ4) (ν := ν4) zz ((M4.2.1 13 (by decide) (by decide) (by decide)).trans h13) (by
          rcases z5 with z5 | ⟨m4, p4, w1, w2, w3, w4, w5⟩
          · exact Or.inl z5
          · exact Or.inr ⟨m4, p4, w1, by omega, w3, fun j hj => by rw [w4 j hj, c3], w5.nu2 z4⟩)
        refine ⟨μ5, ν5, ?_, ?_, (C3.trans z3).trans k3, M4.c.trans k4, ?_⟩
        · unfold B_X5_readClause_29
          rw [bd0_a, z1', bd0_s]
          exact k1
        · unfold B_X12_clause_64
          rw [z2, bd_s]
          exact k2
        · rcases k5 with k5 | ⟨m5, p5, w1, w2, w3, w4, w5⟩
          · exact Or.inl k5
          · exact Or.inr ⟨m5, p5, w1, w2, w3, w4, fun hG => w5 (hG.nu M4)⟩
      by_cases q1 : g2 = 33
      · rw [if_pos q1, if_pos q1]
        exact brB
      rw [if_neg q1, if_neg q1]
      by_cases q2 : g2 = 40
      · rw [if_pos q2, if_pos q2]
        exact brB
      rw [if_neg q2, if_neg q2]
      obtain ⟨v, μ4, ν4, u1, u2, u3, u4, u5⟩ := hs_0 2 m p3 _ _ y3
      rw [u1, bd0_s, u2, bd_s]
      have C4 : RF μ μ4 := C3.trans u3
      have M4 : RMR ν ν4 := M3.trans u4
      rcases u5 with hF | ⟨m4, p4, w1, w2, w3, w4, w5⟩
      · rw [gI_d ν4 78 11, if_neg hF.n, fd_f hF.n]
        obtain ⟨qf, hU, hq⟩ := hF
        obtain ⟨μ5, z1, z2, z3⟩ := un_clS hU
        exact ⟨μ5, ν4, z1, rfl, C4.trans z3, M4.c, Or.inl ⟨qf, z2, hq⟩⟩
      · rw [gI_d ν4 78 11, if_pos w3.2.2.2.1]
        unfold clS
        obtain ⟨g3, p5, μ5, ν5, z0, z1, z2, z3, z4, z5, z6, z7, z8, z9⟩ := w3.nx
        rw [z1, bd_s, z2, bd_s, ic_e, bd_s, sg_e, bd_s]
        have C5 : RF μ μ5 := C4.trans z4
        have M5 : RMR ν ν5 := M4.trans z5
        have h135 := (M5.2.1 13 (by decide) (by decide) (by decide)).trans h13
        have V5 : EV ν5 μ5 m m4 v := ((w5.nu2 u4).mu (fun j _ => by rw [z6])).nu2 z5
        have c5 : ∀ j, j < m → μ5.1 6 j = μ.1 6 j := fun j hj => by rw [z6, w4 j hj, c3]
        by_cases q3 : isc g3 = 0
        · rw [if_pos q3, if_pos q3, fd_e z3.2.2.2.1 h135]
          obtain ⟨k1, k2, k3, k4, k5⟩ := z3.put (-121)
          rw [k1, bd0_s]
          have hmp5 := k2.2.2.2.2.2.1
          have c6 : ∀ j, j < m → (sI (sI μ5 6 m4 (-121)) 5 4 (nI (m4 + 1))).1 6 j = μ.1 6 j := fun j hj => by rw [k5 j (by omega), c5 j hj]
          refine ⟨_, _, rfl, rfl, C5.trans k3, M5.c.trans (fd_c 1 v ν5), Or.inr ⟨m4 + 1, p5, by omega, by omega, (k2.fd 1 v).slack (by omega), c6, fun hG => ?_⟩⟩
          refine GF.go (x := 1) (v := v) (show m ≤ m4 + 1 by omega) (hG.nu M5) (Lm_c (fd_c 1 v ν5)) c6 ?_ (fd_17 1 v ν5) (fd_14 1 v ν5)
          exact cs_1 w1 (V5.mu (fun j hj => k5 j (by omega))) k4
        · rw [if_neg q3, if_neg q3]
          have hcp : VB B b0 n 0 (fun _ => True) (RD 64 3 0) (B_X12_compares_12 (MD 61)) := cpr_e (N := 63) (vs_e 6 0 63 61 rfl (by omega) (by omega))
          have hco : VB B b0 n 0 Z1 (RD 64 1 0) (QN 62) := (rs_e (f := 23) (vu_e 6 0 rfl)).1 64 62 (by omega) (by omega)
          obtain ⟨x, μ6, ν6, k1, k2, k3, k4, kz, k5⟩ := hcp 2 m m4 p5 v μ5 ν5 trivial (by omega) w1 z3 V5
          have hm6 : MD 64 6 1 v ν5 = QN 62 x ν6 := by
            rw [show MD 64 6 1 v ν5 = MD (61 + 3) 6 1 v ν5 from rfl, cd_m1, k2, bd_s]
          rw [k1, bd0_s, hm6]
          have hh : ∃ (y : Int32) (μ7 ν7 : gs_M), RD 64 1 0 μ6 = some μ7 ∧ QN 62 x ν6 = some (y, ν7) ∧ RF μ5 μ7 ∧ RMR ν5 ν7 ∧ Z1 y ∧ (FLT n μ7 ν7 ∨ ∃ m1 p1, m ≤ m1 ∧ p ≤ p1 ∧ RY B b0 n 0 2 m1 p1 μ7 ν7 ∧ (∀ j, j < m → μ7.1 6 j = μ.1 6 j) ∧ EV ν7 μ7 m m1 y) := by
            rcases k5 with hF | ⟨m6, p6, l1, l2, l3, l4, l5⟩
            · have e1 := qn_f (M := 62) hF.n kz
              obtain ⟨qf, hU, hq⟩ := hF
              obtain ⟨μ7, e2, e3, e4⟩ := un_cond (N := 62) hU 0
              exact ⟨x, μ7, ν6, e2, e1, k3.trans e4, k4, kz, Or.inl ⟨qf, e3, hq⟩⟩
            · obtain ⟨y, μ7, ν7, e1, e2, e3, e4, ez, e5⟩ := hco 2 m m6 p6 x μ6 ν6 kz (by omega) (by omega) l3 (l5.nu2 k4)
              refine ⟨y, μ7, ν7, e1, e2, k3.trans e3, k4.trans e4, ez, ?_⟩
              rcases e5 with e5 | ⟨m7, p7, f1, f2, f3, f4, f5⟩
              · exact Or.inl e5
              · exact Or.inr ⟨m7, p7, by omega, by omega, f3, fun j hj => by rw [f4 j (by omega), l4 j (by omega), c5 j hj], f5.nu2 e4⟩
          obtain ⟨y, μ7, ν7, e1, e2, e3, e4, ez, e5⟩ := hh
          rw [e1, bd0_s, e2, bd_s]
          have M7 : RMR ν ν7 := M5.trans e4
          obtain ⟨μ8, ν8, f1, f2, f3, f4, f5⟩ := t74_e ez ((M7.2.1 13 (by decide) (by decide) (by decide)).trans h13) e5
          refine ⟨μ8, ν8, f1, f2, (C5.trans e3).trans f3, M7.c.trans f4, ?_⟩
          rcases f5 with f5 | ⟨m8, p8, i1, i2, i3, i4, i5⟩
          · exact Or.inl f5
          · exact Or.inr ⟨m8, p8, i1, i2, i3, i4, fun hG => i5 (hG.nu M7)⟩
  · rw [if_neg qy, bd0_s, if_neg (show ¬ (121 : Int32) = g from fun e => qy e.symm), if_pos rfl, F2, bd_s]
    obtain ⟨qf, hU, hq⟩ := F3
    rw [un_expect hU, bd0_s]
    obtain ⟨μ3, y1, y2, y3⟩ := un_clR hU
    exact ⟨μ3, _, y1, rfl, (t4.trans RF.s5).trans y3, (t5.trans (RMR.s (Or.inr (Or.inl rfl)))).c, Or.inl ⟨qf, y2, hq⟩⟩
