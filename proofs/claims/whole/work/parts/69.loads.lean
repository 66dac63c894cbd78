/-! laying a ship, loading the reference's -/
def dC (ν : gs_M) (s k : Nat) : Nat := (ν.1 84 (20 * s + 5 * k)).toNatClampNeg
def dH (ν : gs_M) (s k : Nat) : Nat := (ν.1 84 (20 * s + 5 * k + 1)).toNatClampNeg
def dO (ν : gs_M) (p k : Nat) : Nat := (ν.1 85 (20 * p + 5 * k)).toNatClampNeg
def dF (ν : gs_M) (p k : Nat) : Nat := (ν.1 85 (20 * p + 5 * k + 1)).toNatClampNeg
def dT (ν : gs_M) (p k : Nat) : Int32 := ν.1 85 (20 * p + 5 * k + 2)
def dB (ν : gs_M) (p k : Nat) : Int32 := ν.1 85 (20 * p + 5 * k + 3)
def dS (ν : gs_M) (p k : Nat) : Int32 := ν.1 85 (20 * p + 5 * k + 4)
def HD (ν : gs_M) (st s p k : Nat) : Prop := ν.1 84 (20 * s + 5 * k) = nI (dC ν s k) ∧ ν.1 84 (20 * s + 5 * k + 1) = nI (dH ν s k) ∧ ν.1 85 (20 * p + 5 * k) = nI (dO ν p k) ∧ ν.1 85 (20 * p + 5 * k + 1) = nI (dF ν p k) ∧ 2 ≤ dC ν s k ∧ dC ν s k ≤ 12 ∧ dH ν s k ≤ 40 ∧ dO ν p k < st ∧ dF ν p k ≤ dC ν s k * dH ν s k ∧ (dT ν p k = 0 ∨ dT ν p k = 1) ∧ (0 ≤ (dB ν p k).toInt ∧ (dB ν p k).toInt ≤ 40) ∧ (0 ≤ (dS ν p k).toInt ∧ (dS ν p k).toInt ≤ 3)
theorem hd_e {μ ν : gs_M} {st s p r k : Nat} (hst : st ≤ 6) (h : sPr μ ν s p r) (hl : LD ν st s p k) (hk : k < r) : HD ν st s p k := by
  obtain ⟨g, f, c, hh, g1, f1, g2, f2, c5, c6, c2, c1, h4, h3⟩ := hl
  obtain ⟨sh, pl, -, -, -, -, -, -, -, -, -, ⟨_, _, _, _, p5⟩⟩ := h
  obtain ⟨-, g', f', t, b, sa, -, hf480, t1, b1, s1, -, hf', t2, b2, s2⟩ := p5 k hk
  have eC : dC ν s k = c := by unfold dC; rw [c5, nI_clamp (by omega)]
  have eH : dH ν s k = hh := by unfold dH; rw [c6, nI_clamp (by omega)]
  have hff : f = f' := by
    have : c * hh ≤ 480 := Nat.mul_le_mul c2 h4
    exact (nI_eq (by omega) (by omega)).mp (by rw [← f2, hf'])
  have hg : g < 2 ^ 31 := by omega
  have eO : dO ν p k = g := by unfold dO; rw [g2, nI_clamp hg]
  have eF : dF ν p k = f := by unfold dF; rw [f2, nI_clamp (by omega)]
  unfold HD
  rw [eC, eH, eO, eF]
  refine ⟨c5, c6, g2, f2, c1, c2, h4, g1, f1, ?_, ?_, ?_⟩
  · unfold dT
    rw [t2]
    obtain rfl | rfl : t = 0 ∨ t = 1 := by omega
    · exact Or.inl rfl
    · exact Or.inr rfl
  · unfold dB
    rw [b2, nI_toInt (by omega)]
    omega
  · unfold dS
    rw [s2, nI_toInt (by omega)]
    omega
/-- the class's tables stay -/
def TB (μ u : gs_M) : Prop := ∀ b, 7 ≤ b → b ≤ 15 → u.1 b = μ.1 b
theorem TB.refl {μ : gs_M} : TB μ μ := fun _ _ _ => rfl
theorem TB.s {μ u : gs_M} {a j : Nat} {x : Int32} (h : TB μ u) (ha : 16 ≤ a) : TB μ (sI u a j x) := fun b h1 h2 => by rw [sI_n _ _ _ (by omega)]; exact h b h1 h2
theorem TB.u {μ u ν : gs_M} {st : Nat} (h : TB μ u) (hU : cU μ ν st) : cU u ν st := hU.go (h 7 (by omega) (by omega)) (h 8 (by omega) (by omega)) (h 9 (by omega) (by omega)) rfl rfl
theorem TB.sp {μ u ν : gs_M} {s p r : Nat} (h : TB μ u) (hs : sPr μ ν s p r) : sPr u ν s p r := by
  unfold sPr hR pR at *
  rw [h 10 (by omega) (by omega), h 11 (by omega) (by omega), h 12 (by omega) (by omega), h 13 (by omega) (by omega), h 14 (by omega) (by omega), h 15 (by omega) (by omega)]
  exact hs
theorem un_e {μ ν : gs_M} {st o j : Nat} (hU : cU μ ν st) (ho : o < st) (hj : j < 5) : D_X9_number 7 (nI o) 0 (nI j) μ = some (ν.1 83 (5 * o + j), μ) := by
  obtain ⟨u6, u1, u0, u2, u3⟩ := hU
  obtain ⟨r1, r2, -⟩ := u3 o ho
  have := num_e (r := 1) (k := 0) u1 ho u6 (by rw [r1]; rfl) (by decide) (by decide) hj
  rw [show nI 0 = (0 : Int32) from rfl] at this
  rw [this, ← r2 j hj]
  rfl
theorem shape_e {μ : gs_M} {a c : Nat} {x : Int32} (hc : c ≤ 12) : D_X1_shape a (nI c) x μ = some (sI (sI μ a 1 (nI c)) a 8 x) := by
  unfold D_X1_shape B_X1_shape_13
  by_cases z : c = 12
  · subst z
    rw [if_pos (by decide), lt1, lt1]
    rfl
  · rw [if_neg (show ¬ (12 : Int32) ≤ nI c from nI_ge (a := c) (b := 12) (by omega) (by omega)), lt1, lt1]
theorem take_e {μ ν : gs_M} {st a o : Nat} (ha : 16 ≤ a) (hU : cU μ ν st) (ho : o < st) : D_X1_takeStuff a 7 (nI o) μ = some (sI (sI (sI (sI (sI μ a 9 (ν.1 83 (5 * o))) a 10 (ν.1 83 (5 * o + 1))) a 11 (ν.1 83 (5 * o + 2))) a 12 (ν.1 83 (5 * o + 3))) a 13 (ν.1 83 (5 * o + 4))) := by
  have T0 := TB.refl (μ := μ)
  have n0 := un_e hU ho (show 0 < 5 by decide)
  have T1 := T0.s (j := 9) (x := ν.1 83 (5 * o)) ha
  have n1 := un_e (T1.u hU) ho (show 1 < 5 by decide)
  have T2 := T1.s (j := 10) (x := ν.1 83 (5 * o + 1)) ha
  have n2 := un_e (T2.u hU) ho (show 2 < 5 by decide)
  have T3 := T2.s (j := 11) (x := ν.1 83 (5 * o + 2)) ha
  have n3 := un_e (T3.u hU) ho (show 3 < 5 by decide)
  have T4 := T3.s (j := 12) (x := ν.1 83 (5 * o + 3)) ha
  have n4 := un_e (T4.u hU) ho (show 4 < 5 by decide)
  rw [show nI 0 = (0 : Int32) from rfl, Nat.add_zero] at n0
  rw [show nI 1 = (1 : Int32) from rfl] at n1
  rw [show nI 2 = (2 : Int32) from rfl] at n2
  rw [show nI 3 = (3 : Int32) from rfl] at n3
  rw [show nI 4 = (4 : Int32) from rfl] at n4
  unfold D_X1_takeStuff
  rw [n0, bd_s, lt1, n1, bd_s, lt1, n2, bd_s, lt1, n3, bd_s, lt1, n4, bd_s, lt1]
theorem lay1_e {μ ν : gs_M} {st s p r v k : Nat} {q15 : Nat → Int32 → Int32 → Int32 → gs_M → Option (gs_M)} (hv : 26 ≤ v) (hU : cU μ ν st) (hsp : sPr μ ν s p r) (hD : HD ν st s p k) (hk : k < r) (h1 : μ.1 v 1 = nI r) : ∃ μ', Bo_X11_lay_15 q15 v (nI s) (nI p) (nI k) μ = q15 v (nI s) (nI p) (nI (k + 1)) μ' ∧ PH μ' (v + 2 + 2 * k) k (dC ν s k) (dH ν s k) (dO ν p k) (dF ν p k) (dT ν p k) (dB ν p k) (dS ν p k) (ν.1 83) ∧ CF (μ'.1 (v + 2 + 2 * k)) (ν.1 83) (dC ν s k) (dH ν s k) (dO ν p k) (dB ν p k) (dS ν p k) ∧ (∀ b, b ≠ v + 2 + 2 * k → b ≠ v + 2 + 2 * k + 1 → μ'.1 b = μ.1 b) ∧ μ'.2 = μ.2 ∧ μ'.1 (v + 2 + 2 * k) 6 = 0 ∧ μ'.1 (v + 2 + 2 * k) 7 = 0 := by
  obtain ⟨a1, a2, a3, a4, a5, a6, a7, a8⟩ := sr_e hsp
  obtain ⟨x1, x2, x3, x4, c2, c12, h40, ho, hF, ht, hb, hsa⟩ := hD
  obtain ⟨a, ha⟩ : ∃ a, a = v + 2 + 2 * k := ⟨_, rfl⟩
  have ha16 : 16 ≤ a := by omega
  rw [← ha]
  have st6 := hU.1
  obtain ⟨r1, r2, rr, ss, mm, ll, ww, b9, b10, -, -, -, b13, p0, p1, p2, p3, p4⟩ := hU.2.2.2.2 (dO ν p k) ho
  have T0 := TB.refl (μ := μ)
  have s0 := sn_e hsp hk (show 0 < 2 by decide)
  have s1 := sn_e hsp hk (show 1 < 2 by decide)
  rw [show nI 0 = (0 : Int32) from rfl, Nat.add_zero, x1] at s0
  rw [show nI 1 = (1 : Int32) from rfl, x2] at s1
  have e1 := shape_e (μ := μ) (a := a) (x := nI (dH ν s k)) c12
  obtain ⟨u1, hu1⟩ : ∃ u1, u1 = sI (sI μ a 1 (nI (dC ν s k))) a 8 (nI (dH ν s k)) := ⟨_, rfl⟩
  have T1 : TB μ u1 := by rw [hu1]; exact (T0.s ha16).s ha16
  rw [← hu1] at e1
  have l0 := pn_e (T1.sp hsp) hk (show 0 < 5 by decide)
  rw [show nI 0 = (0 : Int32) from rfl, Nat.add_zero, x3] at l0
  have e2 := take_e ha16 (T1.u hU) ho
  obtain ⟨u6, hu6⟩ : ∃ u6, u6 = sI (sI (sI (sI (sI u1 a 9 (ν.1 83 (5 * dO ν p k))) a 10 (ν.1 83 (5 * dO ν p k + 1))) a 11 (ν.1 83 (5 * dO ν p k + 2))) a 12 (ν.1 83 (5 * dO ν p k + 3))) a 13 (ν.1 83 (5 * dO ν p k + 4)) := ⟨_, rfl⟩
  rw [← hu6] at e2
  have T6 : TB μ u6 := by rw [hu6]; exact ((((T1.s ha16).s ha16).s ha16).s ha16).s ha16
  have l3 := pn_e (T6.sp hsp) hk (show 3 < 5 by decide)
  rw [show nI 3 = (3 : Int32) from rfl] at l3
  obtain ⟨u7, hu7⟩ : ∃ u7, u7 = sI u6 a 2 (dB ν p k) := ⟨_, rfl⟩
  have T7 : TB μ u7 := by rw [hu7]; exact T6.s ha16
  have l4 := pn_e (T7.sp hsp) hk (show 4 < 5 by decide)
  rw [show nI 4 = (4 : Int32) from rfl] at l4
  obtain ⟨u8, hu8⟩ : ∃ u8, u8 = sI u7 a 3 (dS ν p k) := ⟨_, rfl⟩
  have T8 : TB μ u8 := by rw [hu8]; exact T7.s ha16
  have l1 := pn_e (T8.sp hsp) hk (show 1 < 5 by decide)
  have l2 := pn_e (T8.sp hsp) hk (show 2 < 5 by decide)
  rw [show nI 1 = (1 : Int32) from rfl, x4] at l1
  rw [show nI 2 = (2 : Int32) from rfl] at l2
  have hCF : CF (u8.1 a) (ν.1 83) (dC ν s k) (dH ν s k) (dO ν p k) (dB ν p k) (dS ν p k) := by
    have ee : u8.1 a = upd (upd (upd (upd (upd (upd (upd (upd (upd (μ.1 a) 1 (nI (dC ν s k))) 8 (nI (dH ν s k))) 9 (ν.1 83 (5 * dO ν p k))) 10 (ν.1 83 (5 * dO ν p k + 1))) 11 (ν.1 83 (5 * dO ν p k + 2))) 12 (ν.1 83 (5 * dO ν p k + 3))) 13 (ν.1 83 (5 * dO ν p k + 4))) 2 (dB ν p k)) 3 (dS ν p k) := by
      rw [hu8, sI_s, hu7, sI_s, hu6, sI_s, sI_s, sI_s, sI_s, sI_s, hu1, sI_s, sI_s]
    rw [ee]
    unfold CF
    simp only [upd]
    simp only [Nat.reduceEqDiff, if_true, if_false]
    refine ⟨c2, c12, by omega, h40, trivial, trivial, trivial, trivial, ⟨trivial, trivial, trivial, trivial, trivial⟩, hb, hsa, ?_, ?_, ?_⟩
    · rw [p0, nI_toInt (by omega)]; omega
    · rw [p1, nI_toInt (by omega)]; omega
    · rw [p4, nI_toInt (by omega)]; omega
  obtain ⟨μ', f1, f2, f3, f4, f5, f6, f7⟩ := ph_e (k := k) (show k < 4 by omega) ht hF hCF
  have hoff : ∀ b, b ≠ a → u8.1 b = μ.1 b := fun b hb => by
    rw [hu8, sI_n _ _ _ hb, hu7, sI_n _ _ _ hb, hu6, sI_n _ _ _ hb, sI_n _ _ _ hb, sI_n _ _ _ hb, sI_n _ _ _ hb, sI_n _ _ _ hb, hu1, sI_n _ _ _ hb, sI_n _ _ _ hb]
  have h82 : u8.2 = μ.2 := by rw [hu8, hu7, hu6, hu1]; rfl
  refine ⟨μ', ?_, f2, ?_, fun b b1 b2 => (f3 b b1 b2).trans (hoff b b1), f4.trans h82, f6, f7⟩
  · unfold Bo_X11_lay_15 B_X11_lay_145
    rw [gI_d, h1, if_neg (nI_ge hk (by omega)), inb_n (show k < 4 by omega) (by decide), ck_t, nI_clamp (by omega), ← ha, s0, bd_s, s1, bd_s, e1, bd0_s, l0, bd_s, e2, bd0_s, l3, bd_s, lt1]
    rw [show ν.1 85 (20 * p + 5 * k + 3) = dB ν p k from rfl, ← hu7, l4, bd_s, lt1, show ν.1 85 (20 * p + 5 * k + 4) = dS ν p k from rfl, ← hu8, l1, bd_s, l2, bd_s, nI_1]
    rcases ht with z | z
    · rw [z] at f1
      rw [if_neg (by rw [show ν.1 85 (20 * p + 5 * k + 2) = dT ν p k from rfl, z]; decide), f1, bd0_s]
    · rw [z] at f1
      rw [if_pos (by rw [show ν.1 85 (20 * p + 5 * k + 2) = dT ν p k from rfl, z]), f1, bd0_s]
  · obtain ⟨q1, q2, q3, q4, q5, q6, q7, q8, ⟨q9, q10, q11, q12, q13⟩, qb⟩ := hCF
    unfold CF
    rw [f5 1 (by decide) (by decide) (by decide) (by decide), f5 2 (by decide) (by decide) (by decide) (by decide), f5 3 (by decide) (by decide) (by decide) (by decide), f5 8 (by decide) (by decide) (by decide) (by decide), f5 9 (by decide) (by decide) (by decide) (by decide), f5 10 (by decide) (by decide) (by decide) (by decide), f5 11 (by decide) (by decide) (by decide) (by decide), f5 12 (by decide) (by decide) (by decide) (by decide), f5 13 (by decide) (by decide) (by decide) (by decide)]
    exact ⟨q1, q2, q3, q4, q5, q6, q7, q8, ⟨q9, q10, q11, q12, q13⟩, qb⟩
