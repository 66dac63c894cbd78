/-! fitted -/
theorem csN_c {ν ν' : gs_M} {s p : Nat} {fit bo sa : Int32} (h84 : ν'.1 84 = ν.1 84) (h85 : ν'.1 85 = ν.1 85) : ∀ k, csN ν' s p fit bo sa k = csN ν s p fit bo sa k
  | 0 => rfl
  | k + 1 => by
    show csN ν' s p fit bo sa k + csT ν' s p fit bo sa k + _ = csN ν s p fit bo sa k + csT ν s p fit bo sa k + _
    unfold csT
    rw [csN_c h84 h85 k, h84, h85]
theorem cs_fit {ν : gs_M} {s p h : Nat} {bo sa : Int32} (hh : h < 4) : ∀ k, k ≤ 4 → csN ν s p (nI h) bo sa k = if h < k then csN ν s p (-1) 0 0 k - csT ν s p (-1) 0 0 h + csT ν s p (nI h) bo sa h else csN ν s p (-1) 0 0 k
  | 0, _ => by rw [if_neg (show ¬ h < 0 by omega)]; rfl
  | k + 1, hk => by
    have ih := cs_fit (ν := ν) (s := s) (p := p) (bo := bo) (sa := sa) hh k (by omega)
    have e1 : csN ν s p (nI h) bo sa (k + 1) = csN ν s p (nI h) bo sa k + csT ν s p (nI h) bo sa k + (if ν.1 85 (20 * p + 5 * k + 2) = 1 then ν.1 85 (20 * p + 5 * k + 1) else 0) := rfl
    have e2 : csN ν s p (-1) 0 0 (k + 1) = csN ν s p (-1) 0 0 k + csT ν s p (-1) 0 0 k + (if ν.1 85 (20 * p + 5 * k + 2) = 1 then ν.1 85 (20 * p + 5 * k + 1) else 0) := rfl
    rw [e1, e2, ih]
    by_cases q : h = k
    · subst q
      rw [if_neg (show ¬ h < h by omega), if_pos (show h < h + 1 by omega)]
      generalize csN ν s p (-1) 0 0 h = A
      generalize csT ν s p (-1) 0 0 h = B
      generalize csT ν s p (nI h) bo sa h = C
      generalize (if ν.1 85 (20 * p + 5 * h + 2) = 1 then ν.1 85 (20 * p + 5 * h + 1) else 0) = D
      grind
    · have e3 : csT ν s p (nI h) bo sa k = csT ν s p (-1) 0 0 k := by
        unfold csT
        rw [if_neg (fun e => q ((nI_eq (by omega) (by omega)).mp e).symm), if_neg (fun e => q ((nI_eq (by omega) (by omega)).mp e).symm), if_neg (nI_nm1 (by omega)), if_neg (nI_nm1 (by omega))]
      rw [e3]
      by_cases q2 : h < k
      · rw [if_pos q2, if_pos (show h < k + 1 by omega)]
        generalize csN ν s p (-1) 0 0 k = A
        generalize csT ν s p (-1) 0 0 h = B
        generalize csT ν s p (nI h) bo sa h = C
        generalize csT ν s p (-1) 0 0 k = E
        generalize (if ν.1 85 (20 * p + 5 * k + 2) = 1 then ν.1 85 (20 * p + 5 * k + 1) else 0) = D
        grind
      · rw [if_neg q2, if_neg (show ¬ h < k + 1 by omega)]
/-- what stays while boards and sacks are tried -/
def FI (μ ν : gs_M) (st s p r h : Nat) : Prop := (∀ i, i < r → i ≠ h → PA μ 46 ν s p (-1) 0 0 i) ∧ (∃ b' s', CF (μ.1 (48 + 2 * h)) (ν.1 83) (dC ν s h) (dH ν s h) (dO ν p h) b' s') ∧ (μ.1 46 1 = nI r ∧ μ.1 46 2 = 0 ∧ μ.1 46 3 = 0 ∧ μ.1 46 4 = 0) ∧ sPr μ ν s p r ∧ SS μ ν
theorem FI.t {μ μ' ν : gs_M} {st s p r h : Nat} (hr : r ≤ 4) (hh : h < r) (hF : FI μ ν st s p r h) (ft : F56 μ μ') : FI μ' ν st s p r h := by
  obtain ⟨h1, ⟨b', s', h2⟩, h3, h4, h5⟩ := hF
  have fc : ∀ b, (b < 56 ∨ 66 ≤ b) → μ'.1 b = μ.1 b := fun b hb => (ft b hb).1
  refine ⟨fun i i1 i2 => (h1 i i1 i2).go (fc _ (by omega)) (fc _ (by omega)), ⟨b', s', by rw [fc _ (by omega)]; exact h2⟩, by rw [fc 46 (by omega)]; exact h3, TB.sp (fun b b1 b2 => fc b (by omega)) h4, h5.go (fc 25 (by omega)) (fun _ _ _ => rfl)⟩
theorem fit1_e {μ ν ν' : gs_M} {st s p r h D N : Nat} {bo sa sea : Int32} (hsea : 0 ≤ sea.toInt ∧ sea.toInt ≤ 30) (hD9 : D < 100) (hN : N ≤ 5) (hh : h < r) (hD : ∀ i, i < r → HD ν st s p i) (hF : FI μ ν st s p r h) (hbo : 0 ≤ bo.toInt ∧ bo.toInt ≤ 40) (hsa : 0 ≤ sa.toInt ∧ sa.toInt ≤ 3) (hb : BK ν ν') : ∃ (T z : Nat) (μ2 μ3 ν'' : gs_M), D_X1_fill (48 + 2 * h) (nI (dF ν p h)) (dT ν p h) (sI (sI μ (48 + 2 * h) 2 bo) (48 + 2 * h) 3 sa) = some μ2 ∧ D_X11_lostOf sea (nI D) (nI N) 0 μ2 = some (nI z, μ3) ∧ T ≤ N ∧ z ≤ 5 ∧ (z = 0 ↔ T = 0) ∧ D_X12_safeBy (nI s) (nI p) (nI h) bo sa sea (nI D) (nI N) ν' = some (nI (N - T), ν'') ∧ FI μ3 ν st s p r h ∧ FT μ μ3 ∧ BK ν ν'' := by
  obtain ⟨f1, ⟨b', s', f2⟩, f3, f4, f5⟩ := hF
  obtain ⟨a1, a2, a3, a4, a5, a6, a7, a8⟩ := sr_e f4
  obtain ⟨x1, x2, x3, x4, c2, c12, h40, ho, hFc, ht, hb40, hs3⟩ := hD h hh
  obtain ⟨u2, hu2⟩ : ∃ u2, u2 = sI (sI μ (48 + 2 * h) 2 bo) (48 + 2 * h) 3 sa := ⟨_, rfl⟩
  have ea : u2.1 (48 + 2 * h) = upd (upd (μ.1 (48 + 2 * h)) 2 bo) 3 sa := by rw [hu2, sI_s, sI_s]
  have eb : ∀ b, b ≠ 48 + 2 * h → u2.1 b = μ.1 b := fun b q => by rw [hu2, sI_n _ _ _ q, sI_n _ _ _ q]
  have e2 : u2.2 = μ.2 := by rw [hu2]; rfl
  have hCF : CF (u2.1 (48 + 2 * h)) (ν.1 83) (dC ν s h) (dH ν s h) (dO ν p h) bo sa := by
    obtain ⟨q1, q2, q3, q4, q5, q6, q7, q8, q9, q10, q11, q12⟩ := f2
    rw [ea]
    unfold CF
    simp only [upd]
    simp only [Nat.reduceEqDiff, if_true, if_false]
    exact ⟨q1, q2, q3, q4, q5, q6, trivial, trivial, q9, hbo, hsa, q12⟩
  obtain ⟨μ2, g1, g2, g3, g4, g5, -⟩ := ph_e (k := h) (show h < 4 by omega) ht hFc hCF
  have gb : ∀ b, b ≠ 48 + 2 * h → b ≠ 48 + 2 * h + 1 → μ2.1 b = μ.1 b := fun b q1 q2 => by rw [g3 b q1 q2, eb b q1]
  have hL : LN μ2 ν st s p r (nI h) bo sa := by
    refine ⟨by omega, by omega, a7, a8, a3, hD, fun i hi => ?_, by rw [gb 46 (by omega) (by omega)]; exact f3⟩
    unfold PA
    by_cases q : i = h
    · subst q
      rw [if_pos rfl, if_pos rfl]
      exact g2
    · have := f1 i hi q
      unfold PA at this
      rw [if_neg (nI_nm1 (by omega)), if_neg (nI_nm1 (by omega))] at this
      rw [if_neg (fun e => q ((nI_eq (by omega) (by omega)).mp e)), if_neg (fun e => q ((nI_eq (by omega) (by omega)).mp e))]
      exact this.go (gb _ (by omega) (by omega)) (gb _ (by omega) (by omega))
  have hS2 : SS μ2 ν' := f5.go (gb 25 (by omega) (by omega)) (fun j _ _ => hb.2.1 j (by omega) (by omega))
  have hT : TM ν ν' := ⟨hb.1 83 (by decide) (by decide) (by decide), hb.1 84 (by decide) (by decide) (by decide), hb.1 85 (by decide) (by decide) (by decide), hb.1 86 (by decide) (by decide) (by decide)⟩
  obtain ⟨T, z, μ3, ν'', t1, t2, t3, t4, t5, t6⟩ := so_e (b := 0) hsea hD9 hN (by omega) hT hL hS2
  have hFI2 : FI μ2 ν st s p r h := by
    refine ⟨fun i i1 i2 => (f1 i i1 i2).go (gb _ (by omega) (by omega)) (gb _ (by omega) (by omega)), ⟨bo, sa, hCF.cp g5⟩, by rw [gb 46 (by omega) (by omega)]; exact f3, TB.sp (fun b b1 b2 => gb b (by omega) (by omega)) f4, f5.go (gb 25 (by omega) (by omega)) (fun _ _ _ => rfl)⟩
  refine ⟨T, z, μ2, μ3, ν'', by rw [← hu2]; exact g1, t2, t1, by omega, by omega, t5, hFI2.t a8 hh t4, ?_, hb.trans t6⟩
  refine FT.trans (fun b hb => ⟨gb b (by omega) (by omega), ?_⟩) t4.t
  rw [g4, e2]
theorem fb_loop {ν : gs_M} {st s p r h D N sa : Nat} {sea what bare : Int32} {q106 : Int32 → Int32 → Int32 → Int32 → Int32 → Int32 → Int32 → Nat → Int32 → Int32 → Int32 → Int32 → gs_M → Option (Int32 × gs_M)} {q63 : Int32 → Int32 → Int32 → Int32 → Int32 → Int32 → Int32 → Int32 → Int32 → Int32 → gs_M → Option (Int32 × gs_M)} (hsea : 0 ≤ sea.toInt ∧ sea.toInt ≤ 30) (hD9 : D < 100) (hN : N ≤ 5) (hsa : sa ≤ 3) (hh : h < r) (hD : ∀ i, i < r → HD ν st s p i) (hbare : bare = csN ν s p (-1) 0 0 r - csT ν s p (-1) 0 0 h) :
    ∀ (m t fu fu2 : Nat) (μ ν' : gs_M) (x10 x11 : Int32), t + m = 9 → m < fu → m < fu2 → FI μ ν st s p r h → BK ν ν' → ∃ (y10 y11 : Int32) (μ' ν'' : gs_M), L_X11_fitted_115 q106 fu (nI s) (nI p) (nI h) sea (nI D) (nI N) what (48 + 2 * h) bare x10 x11 (nI sa) (nI (5 * t)) μ = q106 (nI s) (nI p) (nI h) sea (nI D) (nI N) what (48 + 2 * h) bare y10 y11 (nI (sa + 1)) μ' ∧ L_X12_fitted_72 q63 fu2 (nI s) (nI p) (nI h) sea (nI D) (nI N) what x10 x11 (nI sa) (nI (5 * t)) ν' = q63 (nI s) (nI p) (nI h) sea (nI D) (nI N) what y10 y11 (nI (sa + 1)) ν'' ∧ FI μ' ν st s p r h ∧ FT μ μ' ∧ BK ν ν'' := by
  intro m
  induction m with
  | zero =>
    intro t fu fu2 μ ν' x10 x11 ht hf hf2 hF hb
    obtain ⟨fu, rfl⟩ : ∃ m, fu = m + 1 := ⟨fu - 1, by omega⟩
    obtain ⟨fu2, rfl⟩ : ∃ m, fu2 = m + 1 := ⟨fu2 - 1, by omega⟩
    have q : (40 : Int32) < nI (5 * t) := by rw [show (40 : Int32) = nI 40 from rfl]; exact nI_lt (by omega) (by omega)
    refine ⟨x10, x11, μ, ν', ?_, ?_, hF, FT.refl, hb⟩
    · show Bo_X11_fitted_115 _ _ _ _ _ _ _ _ _ _ _ _ _ _ _ _ = _
      unfold Bo_X11_fitted_115
      rw [if_pos q, nI_1]
    · show Bo_X12_fitted_72 _ _ _ _ _ _ _ _ _ _ _ _ _ _ = _
      unfold Bo_X12_fitted_72
      rw [if_pos q, nI_1]
  | succ m ih =>
    intro t fu fu2 μ ν' x10 x11 ht hf hf2 hF hb
    obtain ⟨fu, rfl⟩ : ∃ m, fu = m + 1 := ⟨fu - 1, by omega⟩
    obtain ⟨fu2, rfl⟩ : ∃ m, fu2 = m + 1 := ⟨fu2 - 1, by omega⟩
    have q : ¬ (40 : Int32) < nI (5 * t) := by rw [show (40 : Int32) = nI 40 from rfl]; exact nI_nlt (by omega) (by omega)
    have hF' := hF
    obtain ⟨-, -, -, hsp, -⟩ := hF'
    obtain ⟨a1, a2, a3, a4, a5, a6, a7, a8⟩ := sr_e hsp
    have e5 : nI (5 * t) + 5 = nI (5 * (t + 1)) := by
      rw [show (5 : Int32) = nI 5 from rfl, nI_add]
      congr 1
    obtain ⟨pr, hpr⟩ : ∃ pr, pr = csN ν s p (nI h) (nI (5 * t)) (nI sa) r := ⟨_, rfl⟩
    have hcm : D_X12_costOf (nI s) (nI p) (nI h) (nI (5 * t)) (nI sa) ν' = some (pr, ν') := by
      have := mcost_loop (ν := ν') (s := s) (p := p) (fit := nI h) (bo := nI (5 * t)) (sa := nI sa) (by omega) (by omega) a8 (by rw [hb.1 86 (by decide) (by decide) (by decide)]; exact a3) r 0 4096 (by omega) (by omega)
      rw [csN_c (hb.1 84 (by decide) (by decide) (by decide)) (hb.1 85 (by decide) (by decide) (by decide)) r, ← hpr] at this
      exact this
    have hcc : bare + (3 * nI (5 * t) + 20 * ν.1 84 (20 * s + 5 * h) * nI sa) = pr := by
      rw [hpr, cs_fit (by omega) r (by omega), if_pos hh, hbare]
      congr 1
      unfold csT
      rw [if_pos rfl, if_pos rfl]
    obtain ⟨T, z, μ2, μ3, ν'', t1, t2, t3, t4, t5, t6, t7, t8, t9⟩ := fit1_e (bo := nI (5 * t)) (sa := nI sa) hsea hD9 hN hh hD hF (by rw [nI_toInt (by omega)]; omega) (by rw [nI_toInt (by omega)]; omega) hb
    -- the trial
    have tr : ∃ (y10 y11 : Int32) (μ' ν2 : gs_M), B_X11_fitted_153 q106 (L_X11_fitted_115 q106 fu) (nI s) (nI p) (nI h) sea (nI D) (nI N) what (48 + 2 * h) bare x10 x11 (nI sa) (nI (5 * t)) pr μ = q106 (nI s) (nI p) (nI h) sea (nI D) (nI N) what (48 + 2 * h) bare y10 y11 (nI (sa + 1)) μ' ∧ B_X12_fitted_105 q63 (L_X12_fitted_72 q63 fu2) (nI s) (nI p) (nI h) sea (nI D) (nI N) what x10 x11 (nI sa) (nI (5 * t)) pr ν' = q63 (nI s) (nI p) (nI h) sea (nI D) (nI N) what y10 y11 (nI (sa + 1)) ν2 ∧ FI μ' ν st s p r h ∧ FT μ μ' ∧ BK ν ν2 := by
      have T2 : TB μ (sI (sI μ (48 + 2 * h) 2 (nI (5 * t))) (48 + 2 * h) 3 (nI sa)) := (TB.refl.s (by omega)).s (by omega)
      have l1 := pn_e (T2.sp hsp) hh (show 1 < 5 by decide)
      have l2 := pn_e (T2.sp hsp) hh (show 2 < 5 by decide)
      rw [show nI 1 = (1 : Int32) from rfl, (hD h hh).2.2.2.1] at l1
      rw [show nI 2 = (2 : Int32) from rfl] at l2
      have cb : ∀ y10 y11, ((z = 0 ∧ y10 = 41 * nI sa + nI (5 * t) ∧ y11 = pr) ∨ (z ≠ 0 ∧ y10 = x10 ∧ y11 = x11)) → B_X11_fitted_153 q106 (L_X11_fitted_115 q106 fu) (nI s) (nI p) (nI h) sea (nI D) (nI N) what (48 + 2 * h) bare x10 x11 (nI sa) (nI (5 * t)) pr μ = L_X11_fitted_115 q106 fu (nI s) (nI p) (nI h) sea (nI D) (nI N) what (48 + 2 * h) bare y10 y11 (nI sa) (nI (5 * (t + 1))) μ3 := by
        intro y10 y11 hy
        unfold B_X11_fitted_153 B_X11_fitted_198
        rw [lt1, lt1, l1, bd_s, l2, bd_s]
        have fin : (bd0 (D_X1_fill (48 + 2 * h) (nI (dF ν p h)) (dT ν p h) (sI (sI μ (48 + 2 * h) 2 (nI (5 * t))) (48 + 2 * h) 3 (nI sa))) (fun u2 => bd (D_X11_lostOf sea (nI D) (nI N) (0 : Int32) u2) (fun v5 u4 => if v5 = 0 then (lt1 (((41 : Int32) * nI sa) + nI (5 * t)) (fun v7 => L_X11_fitted_115 q106 fu (nI s) (nI p) (nI h) sea (nI D) (nI N) what (48 + 2 * h) bare v7 pr (nI sa) (nI (5 * t) + (5 : Int32)) u4)) else (L_X11_fitted_115 q106 fu (nI s) (nI p) (nI h) sea (nI D) (nI N) what (48 + 2 * h) bare x10 x11 (nI sa) (nI (5 * t) + (5 : Int32)) u4)))) = L_X11_fitted_115 q106 fu (nI s) (nI p) (nI h) sea (nI D) (nI N) what (48 + 2 * h) bare y10 y11 (nI sa) (nI (5 * (t + 1))) μ3 := by
          rw [t1, bd0_s, t2, bd_s, lt1, e5]
          rcases hy with ⟨rfl, rfl, rfl⟩ | ⟨hz, rfl, rfl⟩
          · rw [if_pos nI_0]
          · rw [if_neg (nI_ne0 (by omega) (by omega))]
        rcases (hD h hh).2.2.2.2.2.2.2.2.2.1 with e | e
        · rw [if_neg (by rw [show ν.1 85 (20 * p + 5 * h + 2) = dT ν p h from rfl, e]; decide)]
          rw [e] at fin
          exact fin
        · rw [if_pos (by rw [show ν.1 85 (20 * p + 5 * h + 2) = dT ν p h from rfl, e])]
          rw [e] at fin
          exact fin
      have mb : ∀ y10 y11, ((z = 0 ∧ y10 = 41 * nI sa + nI (5 * t) ∧ y11 = pr) ∨ (z ≠ 0 ∧ y10 = x10 ∧ y11 = x11)) → B_X12_fitted_105 q63 (L_X12_fitted_72 q63 fu2) (nI s) (nI p) (nI h) sea (nI D) (nI N) what x10 x11 (nI sa) (nI (5 * t)) pr ν' = L_X12_fitted_72 q63 fu2 (nI s) (nI p) (nI h) sea (nI D) (nI N) what y10 y11 (nI sa) (nI (5 * (t + 1))) ν'' := by
        intro y10 y11 hy
        unfold B_X12_fitted_105
        rw [t6, bd_s, lt1, e5]
        rcases hy with ⟨hz, rfl, rfl⟩ | ⟨hz, rfl, rfl⟩
        · rw [if_pos (nI_le (by have := t5.mp hz; omega) (by omega))]
        · have hT : T ≠ 0 := fun e => hz (t5.mpr e)
          rw [if_neg (nI_ge (by omega) (by omega))]
      obtain ⟨y10, y11, hy⟩ : ∃ y10 y11 : Int32, (z = 0 ∧ y10 = 41 * nI sa + nI (5 * t) ∧ y11 = pr) ∨ (z ≠ 0 ∧ y10 = x10 ∧ y11 = x11) := by
        by_cases hz : z = 0
        · exact ⟨_, _, Or.inl ⟨hz, rfl, rfl⟩⟩
        · exact ⟨_, _, Or.inr ⟨hz, rfl, rfl⟩⟩
      obtain ⟨w10, w11, μ', ν2, v1, v2, v3, v4, v5⟩ := ih (t + 1) fu fu2 μ3 ν'' y10 y11 (by omega) (by omega) (by omega) t7 t9
      exact ⟨w10, w11, μ', ν2, (cb y10 y11 hy).trans v1, (mb y10 y11 hy).trans v2, v3, t8.trans v4, v5⟩
    have skip : ∃ (y10 y11 : Int32) (μ' ν2 : gs_M), L_X11_fitted_115 q106 fu (nI s) (nI p) (nI h) sea (nI D) (nI N) what (48 + 2 * h) bare x10 x11 (nI sa) (nI (5 * (t + 1))) μ = q106 (nI s) (nI p) (nI h) sea (nI D) (nI N) what (48 + 2 * h) bare y10 y11 (nI (sa + 1)) μ' ∧ L_X12_fitted_72 q63 fu2 (nI s) (nI p) (nI h) sea (nI D) (nI N) what x10 x11 (nI sa) (nI (5 * (t + 1))) ν' = q63 (nI s) (nI p) (nI h) sea (nI D) (nI N) what y10 y11 (nI (sa + 1)) ν2 ∧ FI μ' ν st s p r h ∧ FT μ μ' ∧ BK ν ν2 :=
      ih (t + 1) fu fu2 μ ν' x10 x11 (by omega) (by omega) (by omega) hF hb
    have cl : L_X11_fitted_115 q106 (fu + 1) (nI s) (nI p) (nI h) sea (nI D) (nI N) what (48 + 2 * h) bare x10 x11 (nI sa) (nI (5 * t)) μ = if x10 = (-1 : Int32) then (B_X11_fitted_153 q106 (L_X11_fitted_115 q106 fu) (nI s) (nI p) (nI h) sea (nI D) (nI N) what (48 + 2 * h) bare x10 x11 (nI sa) (nI (5 * t)) pr μ) else (if pr < x11 then (B_X11_fitted_153 q106 (L_X11_fitted_115 q106 fu) (nI s) (nI p) (nI h) sea (nI D) (nI N) what (48 + 2 * h) bare x10 x11 (nI sa) (nI (5 * t)) pr μ) else (L_X11_fitted_115 q106 fu (nI s) (nI p) (nI h) sea (nI D) (nI N) what (48 + 2 * h) bare x10 x11 (nI sa) (nI (5 * (t + 1))) μ)) := by
      show Bo_X11_fitted_115 _ _ _ _ _ _ _ _ _ _ _ _ _ _ _ _ = _
      unfold Bo_X11_fitted_115
      rw [if_neg q, fc_e hsp hh, bd_s, lt1, hcc, e5]
    have ml : L_X12_fitted_72 q63 (fu2 + 1) (nI s) (nI p) (nI h) sea (nI D) (nI N) what x10 x11 (nI sa) (nI (5 * t)) ν' = if x10 = (-1 : Int32) then (B_X12_fitted_105 q63 (L_X12_fitted_72 q63 fu2) (nI s) (nI p) (nI h) sea (nI D) (nI N) what x10 x11 (nI sa) (nI (5 * t)) pr ν') else (if x11 ≤ pr then (L_X12_fitted_72 q63 fu2 (nI s) (nI p) (nI h) sea (nI D) (nI N) what x10 x11 (nI sa) (nI (5 * (t + 1))) ν') else (B_X12_fitted_105 q63 (L_X12_fitted_72 q63 fu2) (nI s) (nI p) (nI h) sea (nI D) (nI N) what x10 x11 (nI sa) (nI (5 * t)) pr ν')) := by
      show Bo_X12_fitted_72 _ _ _ _ _ _ _ _ _ _ _ _ _ _ = _
      unfold Bo_X12_fitted_72
      rw [if_neg q, hcm, bd_s, e5]
    rw [cl, ml]
    by_cases z1 : x10 = -1
    · rw [if_pos z1, if_pos z1]; exact tr
    · rw [if_neg z1, if_neg z1]
      by_cases z2 : pr < x11
      · rw [if_pos z2, if_neg (by rw [ti_le]; rw [ti_lt] at z2; omega)]; exact tr
      · rw [if_neg z2, if_pos (by rw [ti_le]; rw [ti_lt] at z2; omega)]; exact skip
theorem fs_loop {ν : gs_M} {st s p r h D N : Nat} {sea what bare : Int32} (hsea : 0 ≤ sea.toInt ∧ sea.toInt ≤ 30) (hD9 : D < 100) (hN : N ≤ 5) (hh : h < r) (hD : ∀ i, i < r → HD ν st s p i) (hbare : bare = csN ν s p (-1) 0 0 r - csT ν s p (-1) 0 0 h) :
    ∀ (m sa fu fu2 : Nat) (μ ν' : gs_M) (x10 x11 : Int32), sa + m = 4 → m < fu → m < fu2 → FI μ ν st s p r h → BK ν ν' → ∃ (R : Int32) (μ' ν'' : gs_M), L_X11_fitted_106 fu (nI s) (nI p) (nI h) sea (nI D) (nI N) what (48 + 2 * h) bare x10 x11 (nI sa) μ = some (R, μ') ∧ L_X12_fitted_63 fu2 (nI s) (nI p) (nI h) sea (nI D) (nI N) what x10 x11 (nI sa) ν' = some (R, ν'') ∧ FT μ μ' ∧ BK ν ν'' := by
  intro m
  induction m with
  | zero =>
    intro sa fu fu2 μ ν' x10 x11 ht hf hf2 hF hb
    obtain ⟨fu, rfl⟩ : ∃ m, fu = m + 1 := ⟨fu - 1, by omega⟩
    obtain ⟨fu2, rfl⟩ : ∃ m, fu2 = m + 1 := ⟨fu2 - 1, by omega⟩
    have cl : L_X11_fitted_106 (fu + 1) (nI s) (nI p) (nI h) sea (nI D) (nI N) what (48 + 2 * h) bare x10 x11 (nI sa) μ = (if what = 0 then (some (x10, μ)) else (if x10 = (-1 : Int32) then (some (x10, μ)) else (some (x11, μ)))) := by
      show Bo_X11_fitted_106 _ _ _ _ _ _ _ _ _ _ _ _ _ _ = _
      unfold Bo_X11_fitted_106
      rw [if_pos (show (3 : Int32) < nI sa by rw [show (3 : Int32) = nI 3 from rfl]; exact nI_lt (by omega) (by omega))]
    have ml : L_X12_fitted_63 (fu2 + 1) (nI s) (nI p) (nI h) sea (nI D) (nI N) what x10 x11 (nI sa) ν' = (if x10 = (-1 : Int32) then (some ((-1 : Int32), ν')) else (if what = 0 then (some (x10, ν')) else (some (x11, ν')))) := by
      show Bo_X12_fitted_63 _ _ _ _ _ _ _ _ _ _ _ _ = _
      unfold Bo_X12_fitted_63
      rw [if_pos (show (4 : Int32) ≤ nI sa by rw [show (4 : Int32) = nI 4 from rfl]; exact nI_le (by omega) (by omega))]
    rw [cl, ml]
    by_cases z1 : x10 = -1
    · refine ⟨x10, μ, ν', ?_, by rw [if_pos z1, z1], FT.refl, hb⟩
      by_cases z2 : what = 0
      · rw [if_pos z2]
      · rw [if_neg z2, if_pos z1]
    · by_cases z2 : what = 0
      · exact ⟨x10, μ, ν', by rw [if_pos z2], by rw [if_neg z1, if_pos z2], FT.refl, hb⟩
      · exact ⟨x11, μ, ν', by rw [if_neg z2, if_neg z1], by rw [if_neg z1, if_neg z2], FT.refl, hb⟩
  | succ m ih =>
    intro sa fu fu2 μ ν' x10 x11 ht hf hf2 hF hb
    obtain ⟨fu, rfl⟩ : ∃ m, fu = m + 1 := ⟨fu - 1, by omega⟩
    obtain ⟨fu2, rfl⟩ : ∃ m, fu2 = m + 1 := ⟨fu2 - 1, by omega⟩
    obtain ⟨y10, y11, μ1, ν1, t1, t2, t3, t4, t5⟩ := fb_loop (sa := sa) (what := what) (q106 := L_X11_fitted_106 fu) (q63 := L_X12_fitted_63 fu2) hsea hD9 hN (by omega) hh hD hbare 9 0 4096 4096 μ ν' x10 x11 (by omega) (by omega) (by omega) hF hb
    obtain ⟨R, μ', ν'', u1, u2, u3, u4⟩ := ih (sa + 1) fu fu2 μ1 ν1 y10 y11 (by omega) (by omega) (by omega) t3 t5
    refine ⟨R, μ', ν'', ?_, ?_, t4.trans u3, u4⟩
    · show Bo_X11_fitted_106 _ _ _ _ _ _ _ _ _ _ _ _ _ _ = _
      unfold Bo_X11_fitted_106
      rw [if_neg (show ¬ (3 : Int32) < nI sa by rw [show (3 : Int32) = nI 3 from rfl]; exact nI_nlt (by omega) (by omega))]
      exact t1.trans u1
    · show Bo_X12_fitted_63 _ _ _ _ _ _ _ _ _ _ _ _ = _
      unfold Bo_X12_fitted_63
      rw [if_neg (show ¬ (4 : Int32) ≤ nI sa by rw [show (4 : Int32) = nI 4 from rfl]; exact nI_ge (by omega) (by omega))]
      exact t2.trans u2
theorem k_fitted {i : Nat} (hi : i ≤ 4096) (y0 y1 y2 y3 y4 y5 y6 : Int32) : CALLS i (D_X11_fitted y0 y1 y2 y3 y4 y5 y6) (D_X12_fitted y0 y1 y2 y3 y4 y5 y6) := by
  intro μ ν0 h0
  obtain ⟨ν, hν, h, he⟩ := th_e h0
  obtain ⟨st, hU, hL, hI, hQ, hgo⟩ := rt_live h
  have hS := hQ.1
  unfold D_X11_fitted D_X12_fitted
  rw [lt1, ← hν]
  rcases can_e h.2.2.1 h.2.2.2.1 hU y0 y1 with ⟨q1, q2⟩ | ⟨s, p, r, rfl, rfl, hsp, hld, q1, q2⟩
  · exact fin_e (r := -1) h he (by rw [q1, bd_s, if_pos rfl]) (by rw [q2, bd_s, if_pos rfl])
  obtain ⟨a1, a2, a3, a4, a5, a6, a7, a8⟩ := sr_e hsp
  rw [q1, bd_s, if_neg z10, q2, bd_s, if_neg z10, a1, bd_s, wi_e, bd_s, inb_n (show s < 4 by omega) (by decide), ck_t, nI_clamp (by omega), gI_d, a3, ii_e, bd_s]
  rcases inN_n (x := y2) (n := r) a7 (by omega) with ⟨-, e⟩ | ⟨hh, hhr, rfl, e⟩
  · exact fin_e (r := -1) h he (by rw [e, if_pos rfl]) (by rw [e, if_pos rfl])
  rw [e, if_neg z10, if_neg z10]
  rcases cvo_e y3 y4 y5 μ ν with ⟨q3, q4⟩ | ⟨D, N, d1, d2, n1, n2, rfl, rfl, hsea, q3, q4⟩
  · exact fin_e (r := -1) h he (by rw [q3, bd_s, if_pos rfl]) (by rw [q4, bd_s, if_pos rfl])
  rw [q3, bd_s, if_neg z10, q4, bd_s, if_neg z10, wi_e, bd_s, ii_e, bd_s]
  rcases inN_k y6 (lo := 0) (hi := 1) (L := 0) (H := 1) (by decide) (by decide) with z | ⟨z, -, -⟩
  · exact fin_e (r := -1) h he (by rw [z, if_pos rfl]) (by rw [z, if_pos rfl])
  rw [z, if_neg z10, if_neg z10]
  obtain ⟨μ1, l1, l2, l3, l4⟩ := ln_e hU hsp hld
  obtain ⟨g1, g2, g3, g4, g5, g6, g7, g8⟩ := l2
  have hT : TB μ μ1 := fun b b1 b2 => l3.1 b (by omega)
  have hsp1 := hT.sp hsp
  have hCF := l4 hh hhr
  have hF : FI μ1 ν st s p r hh := ⟨fun i i1 _ => g7 i i1, ⟨_, _, hCF⟩, g8, hsp1, hS.go (l3.1 25 (by omega)) (fun _ _ _ => rfl)⟩
  have hb2 : μ1.1 (48 + 2 * hh) 2 = dB ν p hh := hCF.2.2.2.2.2.2.1
  have hb3 : μ1.1 (48 + 2 * hh) 3 = dS ν p hh := hCF.2.2.2.2.2.2.2.1
  obtain ⟨R, μ', ν', t1, t2, t3, t4⟩ := fs_loop (what := y6) hsea (show D < 100 by omega) n1 hhr g6 rfl 4 0 4096 4096 μ1 ν (-1) 0 (by omega) (by omega) (by omega) hF BK.refl
  refine tfin_e (r := R) h he ((l3.ft (by decide) (by decide)).trans t3) t4 ?_ t2
  rw [l1, bd0_s, inb_n (show hh < 4 by omega) (by decide), ck_t, cc_e (i := i) hsp1, bd_s, nI_clamp (by omega), show 46 + 2 + 2 * hh = 48 + 2 * hh by omega, gI_d, gI_d, hb2, hb3, fc_e hsp1 hhr, bd_s, lt1]
  have hT1 : 3 * dB ν p hh + 20 * ν.1 84 (20 * s + 5 * hh) * dS ν p hh = csT ν s p (-1) 0 0 hh := by
    unfold csT
    rw [if_neg (nI_nm1 (by omega)), if_neg (nI_nm1 (by omega))]
    rfl
  rw [hT1]
  exact t1
