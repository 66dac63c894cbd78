/-! cost, canLoad, set, end -/
theorem pn_e {μ ν : gs_M} {s p r k j : Nat} (h : sPr μ ν s p r) (hk : k < r) (hj : j < 5) : D_X9_number 13 (nI p) (nI k) (nI j) μ = some (ν.1 85 (20 * p + 5 * k + j), μ) := by
  obtain ⟨sh, pl, h1, h2, h3, h4, h5, h6, h7, h8, ⟨-, hr4, -⟩, ⟨p1, p2, p3, p4, p5⟩⟩ := h
  rw [num_e h6 h4 (by omega) p3 (by omega) hk hj, ← (p5 k hk).1 j hj]
theorem sn_e {μ ν : gs_M} {s p r k j : Nat} (h : sPr μ ν s p r) (hk : k < r) (hj : j < 2) : D_X9_number 10 (nI s) (nI k) (nI j) μ = some (ν.1 84 (20 * s + 5 * k + j), μ) := by
  obtain ⟨sh, pl, h1, h2, h3, h4, h5, h6, h7, h8, ⟨q1, q2, q3, q4, q5⟩, -⟩ := h
  rw [num_e h5 h3 (by omega) q3 (by omega) hk (by omega), ← (q5 k hk).1 j hj]
theorem sr_e {μ ν : gs_M} {s p r : Nat} (h : sPr μ ν s p r) : D_X9_rowsOf 10 (nI s) μ = some (nI r, μ) ∧ D_X9_rowsOf 13 (nI p) μ = some (nI r, μ) ∧ ν.1 86 s = nI r ∧ ν.1 87 p = nI r ∧ s < 3 ∧ p < 6 ∧ 1 ≤ r ∧ r ≤ 4 := by
  obtain ⟨sh, pl, h1, h2, h3, h4, h5, h6, h7, h8, ⟨q1, q2, q3, q4, q5⟩, ⟨p1, p2, p3, p4, p5⟩⟩ := h
  exact ⟨by rw [rows_e h5 h3 (by omega), q3], by rw [rows_e h6 h4 (by omega), p3], q4, p4, by omega, by omega, q1, q2⟩
theorem fc_e {μ ν : gs_M} {s p r k : Nat} {bo sa : Int32} (h : sPr μ ν s p r) (hk : k < r) : D_X11_fittingCost (nI s) (nI k) bo sa μ = some (3 * bo + 20 * ν.1 84 (20 * s + 5 * k) * sa, μ) := by
  unfold D_X11_fittingCost
  have := sn_e h hk (show 0 < 2 by decide)
  rw [show nI 0 = (0 : Int32) from rfl, Nat.add_zero] at this
  rw [this, bd_s]
theorem ccost_loop {μ ν : gs_M} {s p r : Nat} (h : sPr μ ν s p r) : ∀ (m k fu : Nat), k + m = r → m < fu → L_X11_cost_48 fu (nI s) (nI p) (csN ν s p (-1) 0 0 k) (nI k) μ = some (csN ν s p (-1) 0 0 r, μ) := by
  obtain ⟨a1, a2, a3, a4, a5, a6, a7, a8⟩ := sr_e h
  intro m
  induction m with
  | zero =>
    intro k fu hk hf
    obtain ⟨fu, rfl⟩ : ∃ m, fu = m + 1 := ⟨fu - 1, by omega⟩
    obtain rfl : k = r := by omega
    show Bo_X11_cost_48 _ _ _ _ _ _ = _
    unfold Bo_X11_cost_48
    rw [a1, bd_s, if_pos (nI_le (Nat.le_refl _) (by omega))]
  | succ m ih =>
    intro k fu hk hf
    obtain ⟨fu, rfl⟩ : ∃ m, fu = m + 1 := ⟨fu - 1, by omega⟩
    rw [← ih (k + 1) fu (by omega) (by omega)]
    have hkr : k < r := by omega
    have l1 := pn_e h hkr (show 1 < 5 by decide)
    have l2 := pn_e h hkr (show 2 < 5 by decide)
    have l3 := pn_e h hkr (show 3 < 5 by decide)
    have l4 := pn_e h hkr (show 4 < 5 by decide)
    rw [show nI 1 = (1 : Int32) from rfl] at l1
    rw [show nI 2 = (2 : Int32) from rfl] at l2
    rw [show nI 3 = (3 : Int32) from rfl] at l3
    rw [show nI 4 = (4 : Int32) from rfl] at l4
    have ht : ν.1 85 (20 * p + 5 * k + 2) * ν.1 85 (20 * p + 5 * k + 1) = if ν.1 85 (20 * p + 5 * k + 2) = 1 then ν.1 85 (20 * p + 5 * k + 1) else 0 := by
      obtain ⟨sh, pl, h1, h2, h3, h4, h5, h6, h7, h8, -, ⟨p1, p2, p3, p4, p5⟩⟩ := h
      obtain ⟨-, g, f, t, b, sa, -, -, t1, -, -, -, -, t2, -⟩ := p5 k hkr
      obtain rfl | rfl : t = 0 ∨ t = 1 := by omega
      · rw [t2, show nI 0 = (0 : Int32) from rfl, Int32.zero_mul, if_neg (by decide)]
      · rw [t2, show nI 1 = (1 : Int32) from rfl, Int32.one_mul, if_pos rfl]
    have eN : csN ν s p (-1) 0 0 (k + 1) = csN ν s p (-1) 0 0 k + csT ν s p (-1) 0 0 k + (if ν.1 85 (20 * p + 5 * k + 2) = 1 then ν.1 85 (20 * p + 5 * k + 1) else 0) := rfl
    rw [eN]
    show Bo_X11_cost_48 _ _ _ _ _ _ = _
    unfold Bo_X11_cost_48 csT
    rw [a1, bd_s, if_neg (nI_ge hkr (by omega)), l3, bd_s, l4, bd_s, fc_e h hkr, bd_s, lt1, l2, bd_s, l1, bd_s, lt1, nI_1, ht, if_neg (nI_nm1 (by omega)), if_neg (nI_nm1 (by omega))]
/-- which ship, which plan -/
theorem wh_e {μ ν : gs_M} (hH : ∃ sh, cH μ ν sh) (hP : ∃ pl, cP μ ν pl) (x y : Int32) : (∃ z w : Int32, (D_X9_has 10 x μ = some (z, μ) ∧ D_X12_isShip x ν = some (z, ν) ∧ D_X9_has 13 y μ = some (w, μ) ∧ D_X12_isPlan y ν = some (w, ν)) ∧ ((z = 0 ∧ (w = 0 ∨ w = 1)) ∨ (z = 1 ∧ w = 0))) ∨ ∃ s p rs rp sh pl, x = nI s ∧ y = nI p ∧ sh ≤ 3 ∧ pl ≤ 6 ∧ s < sh ∧ p < pl ∧ μ.1 10 3 = nI sh ∧ μ.1 13 3 = nI pl ∧ ν.1 78 25 = nI sh ∧ ν.1 78 26 = nI pl ∧ hR μ ν s rs ∧ pR μ ν p rp ∧ D_X9_has 10 x μ = some (1, μ) ∧ D_X12_isShip x ν = some (1, ν) ∧ D_X9_has 13 y μ = some (1, μ) ∧ D_X12_isPlan y ν = some (1, ν) := by
  obtain ⟨sh, s6, s1, s0, s2, s3⟩ := hH
  obtain ⟨pl, p6, p1, p0, p2, p3⟩ := hP
  rcases has_e (x := x) s1 (by omega) with ⟨q1, q2⟩ | ⟨s, hs, rfl, q1⟩
  · rcases has_e (x := y) p1 (by omega) with ⟨q3, q4⟩ | ⟨p, hp, rfl, q3⟩
    · exact Or.inl ⟨0, 0, ⟨q1, isS_e s2 q2, q3, isP_e p2 q4⟩, Or.inl ⟨rfl, Or.inl rfl⟩⟩
    · exact Or.inl ⟨0, 1, ⟨q1, isS_e s2 q2, q3, isP_1 p2 hp (by omega)⟩, Or.inl ⟨rfl, Or.inr rfl⟩⟩
  · rcases has_e (x := y) p1 (by omega) with ⟨q3, q4⟩ | ⟨p, hp, rfl, q3⟩
    · exact Or.inl ⟨1, 0, ⟨q1, isS_1 s2 hs (by omega), q3, isP_e p2 q4⟩, Or.inr ⟨rfl, rfl⟩⟩
    · obtain ⟨rs, hrs⟩ := s3 s hs
      obtain ⟨rp, hrp⟩ := p3 p hp
      exact Or.inr ⟨s, p, rs, rp, sh, pl, rfl, rfl, s6, p6, hs, hp, s1, p1, s2, p2, hrs, hrp, q1, isS_1 s2 hs (by omega), q3, isP_1 p2 hp (by omega)⟩
/-- the class's cost -/
theorem cc_e {i : Nat} {μ ν : gs_M} {s p r : Nat} (h : sPr μ ν s p r) : D_X11_cost (nI s) (nI p) μ = some (csN ν s p (-1) 0 0 r, μ) := by
  obtain ⟨a1, a2, a3, a4, a5, a6, a7, a8⟩ := sr_e h
  have h' := h
  obtain ⟨sh, pl, h1, h2, h3, h4, h5, h6, h7, h8, -⟩ := h'
  unfold D_X11_cost
  rw [has1 h5 h3 (by omega), bd_s, if_neg z10, has1 h6 h4 (by omega), bd_s, if_neg z10, a1, bd_s, a2, bd_s, if_pos rfl]
  exact ccost_loop h r 0 4096 (by omega) (by omega)
theorem mc_e {μ ν : gs_M} {s p r : Nat} {fit bo sa : Int32} (h : sPr μ ν s p r) : D_X12_costOf (nI s) (nI p) fit bo sa ν = some (csN ν s p fit bo sa r, ν) := by
  obtain ⟨a1, a2, a3, a4, a5, a6, a7, a8⟩ := sr_e h
  exact mcost_loop (by omega) (by omega) a8 a3 r 0 4096 (by omega) (by omega)
theorem k_cost {i : Nat} (y0 y1 : Int32) : CALLS i (D_X11_cost y0 y1) (D_X12_cost y0 y1) := by
  intro μ ν0 h0
  obtain ⟨ν, hν, h, he⟩ := th_e h0
  unfold D_X12_cost B_X12_cost_48
  rw [lt1, ← hν]
  rcases wh_e h.2.2.1 h.2.2.2.1 y0 y1 with ⟨z, w, ⟨q1, q2, q3, q4⟩, q5⟩ | ⟨s, p, rs, rp, sh, pl, rfl, rfl, s6, p6, hs, hp, e1, e2, e3, e4, hrs, hrp, q1, q2, q3, q4⟩
  · refine fin_e (r := -1) h he ?_ ?_
    · unfold D_X11_cost
      rcases q5 with ⟨rfl, -⟩ | ⟨rfl, rfl⟩
      · rw [q1, bd_s, if_pos rfl]
      · rw [q1, bd_s, if_neg z10, q3, bd_s, if_pos rfl]
    · rcases q5 with ⟨rfl, -⟩ | ⟨rfl, rfl⟩
      · rw [q2, bd_s, if_pos rfl]
      · rw [q2, bd_s, if_neg z10, q4, bd_s, if_pos rfl]
  · rw [q2, bd_s, if_neg z10, q4, bd_s, if_neg z10, inb_n (show s < 4 by omega) (by decide), ck_t, inb_n (show p < 7 by omega) (by decide), ck_t, nI_clamp (by omega), nI_clamp (by omega), gI_d, gI_d]
    have hrs' := hrs
    have hrp' := hrp
    obtain ⟨r1, r2, r3, r4, r5⟩ := hrs'
    obtain ⟨p1, p2, p3, p4, p5⟩ := hrp'
    rw [r4, p4]
    by_cases z : rs = rp
    · subst z
      have hsp : sPr μ ν s p rs := ⟨sh, pl, s6, p6, hs, hp, e1, e2, e3, e4, hrs, hrp⟩
      rw [if_pos rfl]
      exact fin_e (r := csN ν s p (-1) 0 0 rs) h he (cc_e (i := i) hsp) (by rw [mc_e hsp, bd_s])
    · have hz : ¬ nI rs = nI rp := fun q => z ((nI_eq (by omega) (by omega)).mp q)
      refine fin_e (r := -1) h he ?_ (by rw [if_neg hz])
      unfold D_X11_cost
      rw [q1, bd_s, if_neg z10, q3, bd_s, if_neg z10, rows_e e1 hs (by omega), bd_s, rows_e e2 hp (by omega), bd_s, r3, p3, if_neg hz]
/-- a hold of a ship that may be loaded with its laying -/
def LD (ν : gs_M) (st s p k : Nat) : Prop := ∃ g f c h : Nat, g < st ∧ f ≤ c * h ∧ ν.1 85 (20 * p + 5 * k) = nI g ∧ ν.1 85 (20 * p + 5 * k + 1) = nI f ∧ ν.1 84 (20 * s + 5 * k) = nI c ∧ ν.1 84 (20 * s + 5 * k + 1) = nI h ∧ c ≤ 12 ∧ 2 ≤ c ∧ h ≤ 40 ∧ 4 ≤ h
theorem can_loop {μ ν : gs_M} {st s p r : Nat} (hU : cU μ ν st) (h : sPr μ ν s p r) : ∀ (m k fu fu2 : Nat), k + m = r → m < fu → m < fu2 → ∃ z, L_X11_canLoad_45 fu (nI s) (nI p) (nI k) μ = some (z, μ) ∧ L_X12_canLoad_35 fu2 (nI s) (nI p) (nI k) ν = some (z, ν) ∧ (z = 0 ∨ (z = 1 ∧ ∀ i, k ≤ i → i < r → LD ν st s p i)) := by
  obtain ⟨a1, a2, a3, a4, a5, a6, a7, a8⟩ := sr_e h
  intro m
  induction m with
  | zero =>
    intro k fu fu2 hk hf hf2
    obtain ⟨fu, rfl⟩ : ∃ m, fu = m + 1 := ⟨fu - 1, by omega⟩
    obtain ⟨fu2, rfl⟩ : ∃ m, fu2 = m + 1 := ⟨fu2 - 1, by omega⟩
    obtain rfl : k = r := by omega
    refine ⟨1, ?_, ?_, Or.inr ⟨rfl, fun i h1 h2 => absurd h1 (by omega)⟩⟩
    · show Bo_X11_canLoad_45 _ _ _ _ _ = _
      unfold Bo_X11_canLoad_45
      rw [a1, bd_s, if_pos (nI_le (Nat.le_refl _) (by omega))]
    · show Bo_X12_canLoad_35 _ _ _ _ _ = _
      unfold Bo_X12_canLoad_35
      rw [inb_n (show s < 4 by omega) (by decide), ck_t, nI_clamp (by omega), gI_d, a3, if_pos (nI_le (Nat.le_refl _) (by omega))]
  | succ m ih =>
    intro k fu fu2 hk hf hf2
    obtain ⟨fu, rfl⟩ : ∃ m, fu = m + 1 := ⟨fu - 1, by omega⟩
    obtain ⟨fu2, rfl⟩ : ∃ m, fu2 = m + 1 := ⟨fu2 - 1, by omega⟩
    have hkr : k < r := by omega
    have s0 := sn_e h hkr (show 0 < 2 by decide)
    have s1 := sn_e h hkr (show 1 < 2 by decide)
    have l0 := pn_e h hkr (show 0 < 5 by decide)
    have l1 := pn_e h hkr (show 1 < 5 by decide)
    have t0 := hOf (ν := ν) (show s < 4 by omega) (show k < 4 by omega) (show 0 < 5 by decide)
    have t1 := hOf (ν := ν) (show s < 4 by omega) (show k < 4 by omega) (show 1 < 5 by decide)
    have o0 := lOf (ν := ν) (show p < 7 by omega) (show k < 4 by omega) (show 0 < 5 by decide)
    have o1 := lOf (ν := ν) (show p < 7 by omega) (show k < 4 by omega) (show 1 < 5 by decide)
    rw [show nI 0 = (0 : Int32) from rfl, Nat.add_zero] at s0 l0 t0 o0
    rw [show nI 1 = (1 : Int32) from rfl] at s1 l1 t1 o1
    have h' := h
    obtain ⟨sh, pl, -, -, -, -, -, -, -, -, ⟨_, _, _, _, q5⟩, ⟨_, _, _, _, p5⟩⟩ := h'
    obtain ⟨-, c, hh, c1, c2, c3, c4, c5, c6⟩ := q5 k hkr
    obtain ⟨-, g, f, t, b, sa, g1, f1, -, -, -, g2, f2, -⟩ := p5 k hkr
    obtain ⟨u6, u1, u0, u2, -⟩ := hU
    have hch : c * hh ≤ 480 := Nat.mul_le_mul c2 c4
    have cl : L_X11_canLoad_45 (fu + 1) (nI s) (nI p) (nI k) μ = bd (D_X9_has 7 (nI g) μ) (fun v17 u16 => if v17 = 0 then (some ((0 : Int32), u16)) else (bd (D_X9_number 13 (nI p) (nI k) (1 : Int32) u16) (fun v21 u20 => if v21 ≤ nI (c * hh) then (L_X11_canLoad_45 fu (nI s) (nI p) (nI (k + 1)) u20) else (some ((0 : Int32), u20))))) := by
      show Bo_X11_canLoad_45 _ _ _ _ _ = _
      unfold Bo_X11_canLoad_45
      rw [a1, bd_s, if_neg (nI_ge hkr (by omega)), s0, bd_s, s1, bd_s, lt1, l0, bd_s, c5, c6, g2, pk_mul, nI_1]
    have ml : L_X12_canLoad_35 (fu2 + 1) (nI s) (nI p) (nI k) ν = bd (D_X12_isStuff (nI g) ν) (fun v8 u7 => if v8 = 0 then (some ((0 : Int32), u7)) else (bd (D_X12_layingOf (nI p) (nI k) (1 : Int32) u7) (fun v12 u11 => bd (D_X12_holdOf (nI s) (nI k) (0 : Int32) u11) (fun v15 u14 => bd (D_X12_holdOf (nI s) (nI k) (1 : Int32) u14) (fun v18 u17 => if v12 ≤ (v15 * v18) then (L_X12_canLoad_35 fu2 (nI s) (nI p) (nI (k + 1)) u17) else (some ((0 : Int32), u17))))))) := by
      show Bo_X12_canLoad_35 _ _ _ _ _ = _
      unfold Bo_X12_canLoad_35
      rw [inb_n (show s < 4 by omega) (by decide), ck_t, nI_clamp (by omega), gI_d, a3, if_neg (nI_ge hkr (by omega)), o0, bd_s, g2, nI_1]
    by_cases z : g < st
    · rw [has1 u1 z u6, bd_s, if_neg z10, l1, bd_s, f2] at cl
      rw [isU_1 u2 z u6, bd_s, if_neg z10, o1, bd_s, t0, bd_s, t1, bd_s, f2, c5, c6, pk_mul] at ml
      by_cases z2 : f ≤ c * hh
      · rw [if_pos (nI_le z2 (by omega))] at cl ml
        obtain ⟨z', w1, w2, w3⟩ := ih (k + 1) fu fu2 (by omega) (by omega) (by omega)
        refine ⟨z', cl.trans w1, ml.trans w2, w3.imp id (fun ⟨e1, e2⟩ => ⟨e1, fun i i1 i2 => ?_⟩)⟩
        by_cases q : i = k
        · subst q
          exact ⟨g, f, c, hh, z, z2, g2, f2, c5, c6, c2, c1, c4, c3⟩
        · exact e2 i (by omega) i2
      · rw [if_neg (nI_ge (show c * hh < f by omega) (by omega))] at cl ml
        exact ⟨0, cl, ml, Or.inl rfl⟩
    · have e1 : D_X9_has 7 (nI g) μ = some (0, μ) := by
        unfold D_X9_has B_X9_has_16
        rw [gI_d, u1, if_neg (nI_pos (by omega)), if_pos (nI_le (by omega) (by omega))]
      rw [e1, bd_s, if_pos rfl] at cl
      rw [isU_e u2 (Or.inr (nI_le (by omega) (by omega))), bd_s, if_pos rfl] at ml
      exact ⟨0, cl, ml, Or.inl rfl⟩
theorem can_e {μ ν : gs_M} {st : Nat} (hH : ∃ sh, cH μ ν sh) (hP : ∃ pl, cP μ ν pl) (hU : cU μ ν st) (x y : Int32) : (D_X11_canLoad x y μ = some (0, μ) ∧ D_X12_canLoad x y ν = some (0, ν)) ∨ ∃ s p r, x = nI s ∧ y = nI p ∧ sPr μ ν s p r ∧ (∀ k, k < r → LD ν st s p k) ∧ D_X11_canLoad x y μ = some (1, μ) ∧ D_X12_canLoad x y ν = some (1, ν) := by
  unfold D_X11_canLoad D_X12_canLoad
  rcases wh_e hH hP x y with ⟨z, w, ⟨q1, q2, q3, q4⟩, q5⟩ | ⟨s, p, rs, rp, sh, pl, rfl, rfl, s6, p6, hs, hp, e1, e2, e3, e4, hrs, hrp, q1, q2, q3, q4⟩
  · refine Or.inl ⟨?_, ?_⟩
    · rcases q5 with ⟨rfl, -⟩ | ⟨rfl, rfl⟩
      · rw [q1, bd_s, if_pos rfl]
      · rw [q1, bd_s, if_neg z10, q3, bd_s, if_pos rfl]
    · rcases q5 with ⟨rfl, -⟩ | ⟨rfl, rfl⟩
      · rw [q2, bd_s, if_pos rfl]
      · rw [q2, bd_s, if_neg z10, q4, bd_s, if_pos rfl]
  · rw [q1, bd_s, if_neg z10, q3, bd_s, if_neg z10, rows_e e1 hs (by omega), bd_s, rows_e e2 hp (by omega), bd_s, q2, bd_s, if_neg z10, q4, bd_s, if_neg z10, inb_n (show s < 4 by omega) (by decide), ck_t, inb_n (show p < 7 by omega) (by decide), ck_t, nI_clamp (by omega), nI_clamp (by omega), gI_d, gI_d]
    have hrs' := hrs
    have hrp' := hrp
    obtain ⟨r1, r2, r3, r4, r5⟩ := hrs'
    obtain ⟨p1, p2, p3, p4, p5⟩ := hrp'
    rw [r3, p3, r4, p4]
    by_cases z : rs = rp
    · subst z
      have hsp : sPr μ ν s p rs := ⟨sh, pl, s6, p6, hs, hp, e1, e2, e3, e4, hrs, hrp⟩
      rw [if_pos rfl, if_pos rfl]
      obtain ⟨z', w1, w2, w3⟩ := can_loop hU hsp rs 0 4096 4096 (by omega) (by omega) (by omega)
      rcases w3 with rfl | ⟨rfl, w3⟩
      · exact Or.inl ⟨w1, w2⟩
      · exact Or.inr ⟨s, p, rs, rfl, rfl, hsp, fun k hk => w3 k (by omega) hk, w1, w2⟩
    · have hz : ¬ nI rs = nI rp := fun q => z ((nI_eq (by omega) (by omega)).mp q)
      exact Or.inl ⟨by rw [if_neg hz], by rw [if_neg hz]⟩
