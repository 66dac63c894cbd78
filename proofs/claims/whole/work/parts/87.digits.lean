/-! a number of a rule -/
theorem dgr_loop {B b0 n d k m : Nat} {E : Nat → Int32 → Int32 → gs_M → Option (Int32 × gs_M)} : ∀ (i c p v fu fu2 : Nat) (μ ν : gs_M), c + i = 4 → i < fu → i < fu2 → v < 10 ^ c → (1 ≤ c ∨ ∃ g, D_X8_signAt (nI p) μ = some (g, μ) ∧ inN g 48 57 = 1) → RY B b0 n d k m p μ ν → ∃ (r w : Int32) (μ' ν' : gs_M), L_X4_digits_9 fu 5 4 (nI v) (nI c) μ = some (r, μ') ∧ L_X12_atom_90 E fu2 (nI v) (nI c) ν = some (w, ν') ∧ RF μ μ' ∧ RMR ν ν' ∧ μ'.1 6 = μ.1 6 ∧ (FLT n μ' ν' ∨ ∃ p', p ≤ p' ∧ (c = 0 → p < p') ∧ RY B b0 n d k m p' μ' ν' ∧ r = w ∧ ∃ N, N ≤ 9999 ∧ r = nI N) := by
  intro i
  induction i with
  | zero =>
    intro c p v fu fu2 μ ν hc hf hf2 hv hpre hR
    obtain ⟨fu, rfl⟩ : ∃ m, fu = m + 1 := ⟨fu - 1, by omega⟩
    obtain ⟨fu2, rfl⟩ : ∃ m, fu2 = m + 1 := ⟨fu2 - 1, by omega⟩
    have hc4 : c = 4 := by omega
    subst hc4
    obtain ⟨F1, F2, F3⟩ := hR.flt
    have hR' := hR
    obtain ⟨T, A, s1, s2, hm, hmp, hd⟩ := hR'
    obtain ⟨g, g1, g2, g3⟩ := dt_e T A
    have hv9 : v ≤ 9999 := by have : v < 10000 := hv; omega
    have c1 : L_X4_digits_9 (fu + 1) 5 4 (nI v) (nI 4) μ = if inN g 48 57 = 0 then some (nI v, μ) else some (nI v, sI μ 5 2 (nI p)) := by
      show Bo_X4_digits_9 _ _ _ _ _ _ = _
      unfold Bo_X4_digits_9 B_X4_digits_86
      rw [if_neg (show ¬ (4 : Int32) < nI 4 by decide), gI_d μ 5 1, A.2.1, g1, bd_s, wi_e, bd_s, if_neg (show ¬ nI 4 = 0 by decide), if_pos (show nI 4 = 4 from rfl), gI_d μ 5 1, A.2.1, F1, bd0_s]
    have m1 : L_X12_atom_90 E (fu2 + 1) (nI v) (nI 4) ν = if inN g 48 57 = 0 then some (nI v, ν) else some (0, sI ν 78 11 (nI p)) := by
      show Bo_X12_atom_90 E _ _ _ _ = _
      unfold Bo_X12_atom_90
      rw [g2, bd_s, gI_d ν 78 11, if_pos s2, if_pos (show nI 4 = 4 from rfl), F2, bd_s]
    rw [c1, m1]
    rcases g3 with e | ⟨e, hp, -⟩
    · rw [if_pos e, if_pos e]
      exact ⟨_, _, _, _, rfl, rfl, RF.refl, RMR.refl, rfl, Or.inr ⟨p, Nat.le_refl _, fun h => absurd h (by decide), hR, rfl, v, hv9, rfl⟩⟩
    · rw [e, if_neg z10, if_neg z10]
      exact ⟨_, _, _, _, rfl, rfl, RF.s5, RMR.s (Or.inr (Or.inl rfl)), sI_n _ _ _ (by decide), Or.inl F3⟩
  | succ i ih =>
    intro c p v fu fu2 μ ν hc hf hf2 hv hpre hR
    obtain ⟨fu, rfl⟩ : ∃ m, fu = m + 1 := ⟨fu - 1, by omega⟩
    obtain ⟨fu2, rfl⟩ : ∃ m, fu2 = m + 1 := ⟨fu2 - 1, by omega⟩
    have hR' := hR
    obtain ⟨T, A, s1, s2, hm, hmp, hd⟩ := hR'
    obtain ⟨g, g1, g2, g3⟩ := dt_e T A
    have hv9 : v < 10000 := Nat.lt_of_lt_of_le hv (Nat.pow_le_pow_right (n := 10) (by omega) (show c ≤ 4 by omega))
    have nc4 : ¬ nI c = 4 := by rw [show (4 : Int32) = nI 4 from rfl, nI_eq (by omega) (by omega)]; omega
    have c1 : L_X4_digits_9 (fu + 1) 5 4 (nI v) (nI c) μ = if inN g 48 57 = 0 then B_X4_digits_86 5 (nI v) (nI c) μ else L_X4_digits_9 fu 5 4 (nI v * 10 + g - 48) (nI (c + 1)) (sI μ 5 1 (nI (p + 1))) := by
      show Bo_X4_digits_9 _ _ _ _ _ _ = _
      unfold Bo_X4_digits_9
      rw [if_neg (show ¬ (4 : Int32) < nI c by rw [show (4 : Int32) = nI 4 from rfl]; exact nI_nlt (by omega) (by omega)), gI_d μ 5 1, A.2.1, g1, bd_s, wi_e, bd_s, if_neg nc4, gI_d μ 5 1, A.2.1, g1, bd_s, lt1, lt1, gI_d μ 5 1, A.2.1, nI_1, nI_1]
    rw [c1]
    rcases g3 with e | ⟨e, hp, dd, hdd, rfl, -⟩
    · have hc1 : 1 ≤ c := by
        rcases hpre with q | ⟨g', e1, e2⟩
        · exact q
        · rw [e1] at g1
          injection g1 with g1
          injection g1 with g1
          rw [← g1, e2] at e
          exact absurd e (by decide)
      have m1 : L_X12_atom_90 E (fu2 + 1) (nI v) (nI c) ν = some (nI v, ν) := by
        show Bo_X12_atom_90 E _ _ _ _ = _
        unfold Bo_X12_atom_90
        rw [g2, bd_s, if_pos e]
      rw [if_pos e, m1]
      refine ⟨nI v, nI v, μ, ν, ?_, rfl, RF.refl, RMR.refl, rfl, Or.inr ⟨p, Nat.le_refl _, fun h => by omega, hR, rfl, v, by omega, rfl⟩⟩
      unfold B_X4_digits_86
      rw [if_neg (nI_ne0 (by omega) (by omega))]
    · have hat : ν.1 B (b0 + p) = nI (48 + dd) := by
        obtain ⟨s, z1, z2, z3, z4⟩ := T.2.2.2.2.2.2 p hp
        rw [sa_e T hp, z3] at g1
        injection g1 with g1
        injection g1 with g1
        have := (nI_eq (by omega) (by omega)).mp g1
        subst this
        rw [z4]
        unfold by8
        rw [if_pos (by omega)]
      have t10 : (10 : Int32).toInt = 10 := by decide
      have t48 : (48 : Int32).toInt = 48 := by decide
      have tv : (nI v).toInt = v := nI_toInt (by omega)
      have td : (nI (48 + dd)).toInt = ((48 + dd : Nat) : Int) := nI_toInt (by omega)
      have m1 : (nI v * 10).toInt = v * 10 := by rw [ti_mul (by rw [tv, t10]; omega) (by rw [tv, t10]; omega), tv, t10]
      have m2 : (nI v * 10 + nI (48 + dd)).toInt = v * 10 + 48 + dd := by rw [ti_add (by omega) (by omega), m1, td]; omega
      have k1 : nI v * 10 + nI (48 + dd) - 48 = nI (v * 10 + dd) := by
        apply ti_ext
        rw [ti_sub (by omega) (by omega), m2, t48, nI_toInt (by omega)]
        omega
      have k2 : (10 : Int32) * nI v + nI (48 + dd) - 48 = nI (v * 10 + dd) := by
        rw [Int32.mul_comm, k1]
      have mm : L_X12_atom_90 E (fu2 + 1) (nI v) (nI c) ν = L_X12_atom_90 E fu2 (nI (v * 10 + dd)) (nI (c + 1)) (sI ν 78 10 (nI (p + 1))) := by
        show Bo_X12_atom_90 E _ _ _ _ = _
        unfold Bo_X12_atom_90
        rw [g2, bd_s, e, if_neg z10, gI_d ν 78 11, if_pos s2, if_neg nc4, T.ck hp A.2.2, T.at hp A.2.2, hat, k2, lt1, lt1, gI_d ν 78 10, A.2.2, nI_1, nI_1]
      rw [e, if_neg z10, k1, mm]
      obtain ⟨r, w, μ', ν', t1, t2, t3, t4, t5, t6⟩ := ih (c + 1) (p + 1) (v * 10 + dd) fu fu2 (sI μ 5 1 (nI (p + 1))) (sI ν 78 10 (nI (p + 1))) (by omega) (by omega) (by omega) (by rw [Nat.pow_succ]; omega) (Or.inl (by omega)) (hR.mv (by omega) (by omega))
      refine ⟨r, w, μ', ν', t1, t2, RF.s5.trans t3, (RMR.s (Or.inl rfl)).trans t4, by rw [t5, sI_n _ _ _ (by decide)], ?_⟩
      rcases t6 with t6 | ⟨p', u1, u2, u3, u4, u5⟩
      · exact Or.inl t6
      · exact Or.inr ⟨p', by omega, fun _ => by omega, u3, u4, u5⟩
