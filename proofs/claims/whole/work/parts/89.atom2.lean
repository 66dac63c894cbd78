/-! an atom -/
theorem r1_l {L : Nat → Int32} {i : Nat} (hi : i < 6) (s : List Int32) : run1 L (-(cA 4 i)) s = L i :: s := by
  have : i = 0 ∨ i = 1 ∨ i = 2 ∨ i = 3 ∨ i = 4 ∨ i = 5 := by omega
  unfold run1
  rcases this with rfl | rfl | rfl | rfl | rfl | rfl <;> (rw [if_pos (by decide), if_neg (by decide)]; rfl)
theorem r1_n {L : Nat → Int32} {N : Nat} (hN : N ≤ 9999) (s : List Int32) : run1 L (nI N) s = nI N :: s := by
  unfold run1
  rw [if_neg (show ¬ nI N < 0 from nI_nlt (a := N) (b := 0) (by omega) (by omega))]
theorem l_dig : ∀ i : Fin 6, inN (cA 4 i.1) 48 57 = 0 ∧ inb (cA 4 i.1) 128 = true ∧ ¬ ltr (cA 4 i.1) = -1 := by decide +kernel
theorem l_okc : ∀ i : Fin 6, (-(cA 4 i.1) : Int32) ≠ -63 ∧ (-(cA 4 i.1) : Int32) ≠ -121 := by decide +kernel
theorem RY.slack {B b0 n d k k' m p : Nat} {μ ν : gs_M} (h : RY B b0 n d k m p μ ν) (hk : m + k' ≤ p) : RY B b0 n d k' m p μ ν :=
  ⟨h.1, h.2.1, h.2.2.1, h.2.2.2.1, h.2.2.2.2.1, hk, h.2.2.2.2.2.2⟩
theorem at_e {B b0 n d N M : Nat} (hd6 : d ≤ 6) (hs : d < 6 → VK B b0 n (d + 1) (RD N 4 (nI (d + 1))) (MD M 2 0 0)) : VK B b0 n d (RD (N + 1) 6 (nI d)) (MD (M + 1) 0 0 0) := by
  intro k m p μ ν hR
  show ∃ (v : Int32) (μ' ν' : gs_M), O_X5_readAtom (RD N) (nI d) μ = some μ' ∧ O_X12_atom (MD M) ν = some (v, ν') ∧ _
  unfold O_X5_readAtom O_X12_atom
  obtain ⟨g, p', μ1, ν1, t0, t1, t2, t3, t4, t5, t6, t7, t8, t9⟩ := hR.nx
  obtain ⟨F1, F2, F3⟩ := t3.flt
  have t3' := t3
  obtain ⟨T, A, s1, s2, hm, hmp, hd⟩ := t3'
  obtain ⟨g', g1, g2, g3⟩ := dt_e T A
  have hgg : g' = g := by
    rcases t9 with ⟨e1, e2⟩ | ⟨hp, s, -, -, -, z4, z5, -⟩
    · rw [sa_o T (by omega) (by have := T.1; omega)] at g1
      injection g1 with g1
      injection g1 with g1
      rw [← g1, e2]
    · rw [sa_e T hp, z5] at g1
      injection g1 with g1
      injection g1 with g1
      rw [← g1, z4]
  subst hgg
  rw [t1, bd_s, wi_e, bd_s, ltr_e, bd_s, t2, bd_s, am_e, bd_s]
  rcases ltr_r g' with e | ⟨i, hi, e⟩
  · rw [if_pos e, if_pos e, if_pos (show (0 : Int32) = 0 from rfl)]
    rcases g3 with ez | ⟨ez, hp, dd, hdd, hg, -⟩
    · rw [if_pos ez]
      by_cases q91 : g' = 91
      · rw [if_pos q91, if_pos q91]
        unfold D_X5_goesDeeper B_X5_goesDeeper_13 D_X12_goesIn
        rw [is_e, if_pos s1, bd_s, if_neg z10, gI_d μ1 5 1, A.2.1, nI_1, gI_d ν1 78 12, hd]
        by_cases q6 : d = 6
        · subst q6
          rw [if_neg (show ¬ nI 6 < 6 by decide), if_pos (show nI 6 = 6 from rfl), F1, bd0_s, bd_s, if_pos rfl, F2, bd_s, zb_0, ck_t, bd_s, if_pos rfl]
          exact ⟨0, _, _, rfl, rfl, t4.trans RF.s5, t5.trans (RMR.s (Or.inr (Or.inl rfl))), Or.inl F3⟩
        · have hp : p' < n := by
            rcases t9 with ⟨-, e2⟩ | ⟨e2, -⟩
            · rw [e2] at q91
              exact absurd q91 (by decide)
            · exact e2
          rw [if_pos (show nI d < 6 by rw [show (6 : Int32) = nI 6 from rfl]; exact nI_lt (by omega) (by omega)), if_neg (show ¬ nI d = 6 by rw [show (6 : Int32) = nI 6 from rfl, nI_eq (by omega) (by omega)]; omega), lt1, lt1, lt1, bd_s, bd_s, if_neg z10, if_neg z10, nI_1]
          rw [gI_d, sI_o _ _ (show (10 : Nat) ≠ 12 by decide), A.2.2, nI_1]
          have R2 : RY B b0 n (d + 1) k m (p' + 1) (sI μ1 5 1 (nI (p' + 1))) (sI (sI ν1 78 12 (nI (d + 1))) 78 10 (nI (p' + 1))) := by
            refine ⟨T.rm RF.s5 ((RMR.s (Or.inr (Or.inr rfl))).trans (RMR.s (Or.inl rfl))), ⟨by omega, sI_u _ _ _ _, sI_u _ _ _ _⟩, (sI_o _ _ (by decide)).trans s1, ?_, (sI_o _ _ (by decide)).trans hm, by omega, ?_⟩
            · rw [sI_o _ _ (by decide), sI_o _ _ (by decide)]; exact s2
            · rw [sI_o _ _ (by decide), sI_u]
          obtain ⟨v, μ2, ν2, u1, u2, u3, u4, u5⟩ := hs (by omega) k m (p' + 1) _ _ R2
          have C2 : RF μ μ2 := t4.trans (RF.s5.trans u3)
          have M2 : RMR ν ν2 := t5.trans (((RMR.s (Or.inr (Or.inr rfl))).trans (RMR.s (Or.inl rfl))).trans u4)
          rw [u1, bd0_s, u2, bd_s]
          rcases u5 with hF | ⟨m2, p2, v1, v2, v3, v4, v5⟩
          · obtain ⟨x1, x2⟩ := tk_f hF 93
            rw [x1, bd0_s, x2, bd_s, if_pos rfl]
            exact ⟨0, _, _, rfl, rfl, C2, M2, Or.inl hF⟩
          · obtain ⟨r, μ3, ν3, x1, x2, x3, x4, x5, x6⟩ := tk_e (x := 93) (by decide) v3
            rw [x1, bd0_s, x2, bd_s]
            rcases x6 with ⟨rfl, hF⟩ | ⟨rfl, p3, hp3, R3⟩
            · rw [if_pos rfl]
              exact ⟨0, _, _, rfl, rfl, C2.trans x3, M2.trans x4, Or.inl hF⟩
            · have R3' := R3
              obtain ⟨T3, A3, y1, y2, y3, y4, y5⟩ := R3'
              rw [if_neg z10, lt1, gI_d, y5, nI_m1 (by omega), Nat.add_sub_cancel]
              refine ⟨v, _, _, rfl, rfl, C2.trans x3, (M2.trans x4).trans (RMR.s (Or.inr (Or.inr rfl))), Or.inr ⟨m2, p3, v1, by omega, ⟨T3.rm RF.refl (RMR.s (Or.inr (Or.inr rfl))), ⟨A3.1, A3.2.1, (sI_o _ _ (by decide)).trans A3.2.2⟩, y1, (sI_o _ _ (by decide)).trans y2, y3, by omega, sI_u _ _ _ _⟩, fun j hj => ?_, ?_⟩⟩
              · rw [x5, v4 j hj, sI_n _ _ _ (by decide), t6]
              · intro hL
                have e82 : (sI (sI ν1 78 12 (nI (d + 1))) 78 10 (nI (p' + 1))).1 82 = ν.1 82 := by rw [sI_n _ _ _ (by decide), sI_n _ _ _ (by decide)]; exact t5.1 82 (by decide)
                have eL : Lm (sI (sI ν1 78 12 (nI (d + 1))) 78 10 (nI (p' + 1))) = Lm ν := by
                  funext i
                  unfold Lm
                  rw [e82]
                unfold EV LB at v5
                rw [eL] at v5
                rw [x5]
                exact v5 hL
      · rw [if_neg q91, if_neg q91, gI_d μ1 5 1, A.2.1, F1, bd0_s, g2, bd_s, if_pos ez, F2, bd_s]
        obtain ⟨g4, y1, y2, -⟩ := dt_e (a0 := 5) (μ := μ1) (ν := sI ν1 78 11 (nI p')) (T.rm RF.refl (RMR.s (Or.inr (Or.inl rfl)))) ⟨A.1, A.2.1, (sI_o _ _ (by decide)).trans A.2.2⟩
        rw [g1] at y1
        cases y1
        refine ⟨0, _, sI ν1 78 11 (nI p'), rfl, ?_, t4.trans RF.s5, t5.trans (RMR.s (Or.inr (Or.inl rfl))), Or.inl F3⟩
        unfold B_X12_atom_86
        show Bo_X12_atom_90 (MD M) _ _ _ _ = _
        unfold Bo_X12_atom_90
        rw [y2, bd_s, if_pos ez]
    · have n91 : ¬ g' = 91 := by rw [hg, show (91 : Int32) = nI 91 from rfl, nI_eq (by omega) (by omega)]; omega
      rw [if_neg (by rw [ez]; exact z10), if_neg n91, g2, bd_s, if_neg (by rw [ez]; exact z10)]
      obtain ⟨r, w, μ2, ν2, u1, u2, u3, u4, u5, u6⟩ := dgr_loop (E := MD M) 4 0 p' 0 4096 4096 μ1 ν1 (by omega) (by omega) (by omega) (by decide) (Or.inr ⟨_, g1, ez⟩) t3
      have dg : D_X4_digits 5 4 μ1 = some (r, μ2) := by
        unfold D_X4_digits
        rw [t7, bd_s]
        exact u1
      have ma : B_X12_atom_86 (MD M) ν1 = some (w, ν2) := by
        unfold B_X12_atom_86
        exact u2
      rw [dg, bd_s, ma]
      rcases u6 with ⟨q, hU, hq⟩ | ⟨p2, v1, v2, v3, v4, NN, v5, v6⟩
      · obtain ⟨μ3, x1, x2, x3⟩ := un_put hU r
        rw [x1, bd0_s]
        exact ⟨w, _, _, rfl, rfl, t4.trans (u3.trans x3), t5.trans u4, Or.inl ⟨q, x2, hq⟩⟩
      · have hp2 := v2 rfl
        obtain ⟨x1, x2, x3, x4, x5⟩ := (v3.slack (k' := k + 1) (by omega)).put r
        rw [x1, bd0_s]
        refine ⟨w, _, _, rfl, rfl, t4.trans (u3.trans x3), t5.trans u4, Or.inr ⟨m + 1, p2, by omega, by omega, x2, fun j hj => by rw [x5 j (by omega), u5, t6], ?_⟩⟩
        refine EV.one (fun _ => ?_)
        rw [x4, ← v4, v6]
        exact ⟨by unfold BD; rw [nI_toInt (by omega)]; omega, fun s => r1_n v5 s, okc_n v5⟩
  · have hg := ltr_i hi e
    obtain ⟨l1, l2, l3⟩ := l_dig ⟨i, hi⟩
    simp only at l1 l2 l3
    rw [← hg] at l1 l2 l3
    have hp : p' < n := by
      rcases t9 with ⟨-, e2⟩ | ⟨e2, -⟩
      · rw [e2] at l3
        exact absurd ltr_m1 l3
      · exact e2
    rw [if_pos l1, if_neg l3, if_neg l3, if_neg z10, lt1, gI_d μ1 5 1, A.2.1, nI_1, lt1, gI_d ν1 78 10, A.2.2, nI_1, l2, ck_t, gI_d]
    obtain ⟨x1, x2, x3, x4, x5⟩ := (t3.mv (p' := p' + 1) (k' := k + 1) (by omega) (by omega)).put (-g')
    rw [x1, bd0_s]
    refine ⟨_, _, _, rfl, rfl, t4.trans (RF.s5.trans x3), t5.trans (RMR.s (Or.inl rfl)), Or.inr ⟨m + 1, p' + 1, by omega, by omega, x2, fun j hj => by rw [x5 j (by omega), sI_n _ _ _ (by decide), t6], ?_⟩⟩
    refine EV.one (fun hL => ?_)
    rw [x4, sI_n _ _ _ (by decide), t5.1 82 (by decide), hg]
    exact ⟨hL i hi, fun s => r1_l hi s, l_okc ⟨i, hi⟩⟩
