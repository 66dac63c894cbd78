/-! ballast, book -/
def bv (t : Nat) : Int32 := -999 + 100 * nI t
theorem bv_s (t : Nat) : bv t + 100 = bv (t + 1) := by
  unfold bv
  rw [← nI_1]
  grind
theorem bv_i {t : Nat} (h : t ≤ 20) : (bv t).toInt = -999 + 100 * t := by
  have H : ∀ t, t ≤ 20 → (bv t).toInt = -999 + 100 * (t : Int) := by decide +kernel
  exact H t h
theorem bv_ne : ∀ t, t < 20 → abN (bv t) ≠ abN 0 ∧ ∀ s, s < t → abN (bv t) ≠ abN (bv s) := by decide +kernel
/-- the class's memory but for the ballast, and the trial -/
def Fb (μ μ' : gs_M) : Prop := (∀ b, b < 46 ∨ 66 ≤ b → (b ≠ 25 → μ'.1 b = μ.1 b) ∧ μ'.2 b = μ.2 b) ∧ ∀ j, j ≠ 1 → μ'.1 25 j = μ.1 25 j
theorem Fb.refl {μ : gs_M} : Fb μ μ := ⟨fun _ _ => ⟨fun _ => rfl, rfl⟩, fun _ _ => rfl⟩
theorem Fb.trans {μ0 μ1 μ2 : gs_M} (h : Fb μ0 μ1) (g : Fb μ1 μ2) : Fb μ0 μ2 := ⟨fun b hb => ⟨fun q => ((g.1 b hb).1 q).trans ((h.1 b hb).1 q), (g.1 b hb).2.trans (h.1 b hb).2⟩, fun j hj => (g.2 j hj).trans (h.2 j hj)⟩
theorem FT.b {μ μ' : gs_M} (h : FT μ μ') : Fb μ μ' := ⟨fun b hb => ⟨fun _ => (h b hb).1, (h b hb).2⟩, fun j _ => by rw [(h 25 (by omega)).1]⟩
theorem Fb.s {μ : gs_M} {x : Int32} : Fb μ (sI μ 25 1 x) := ⟨fun b hb => ⟨fun q => sI_n _ _ _ q, rfl⟩, fun j hj => by rw [sI_s, pk_un hj]⟩
theorem VR.fb {μ ν μ' ν' : gs_M} {st n B : Nat} (h : VR μ 26 (ν.1 89) (ν.1 83) (ν.2 78 33) st n B) (ft : Fb μ μ') (bk : BK ν ν') : VR μ' 26 (ν'.1 89) (ν'.1 83) (ν'.2 78 33) st n B :=
  h.cm (fun b _ _ => (ft.1 b (by omega)).1 (by omega)) (ft.1 26 (by omega)).2 bk.2.2.1 (bk.1 83 (by decide) (by decide) (by decide)) (bk.2.2.2.2 33 (by decide))
/-- stiff and limit alone -/
def SQ (μ ν : gs_M) : Prop := μ.1 25 0 = ν.1 78 27 ∧ μ.1 25 2 = ν.1 78 29 ∧ (1 ≤ (ν.1 78 27).toInt ∧ (ν.1 78 27).toInt ≤ 9999)
theorem SQ.fb {μ ν μ' ν' : gs_M} (h : SQ μ ν) (ft : Fb μ μ') (bk : BK ν ν') : SQ μ' ν' := by
  unfold SQ at *
  rw [ft.2 0 (by decide), ft.2 2 (by decide), bk.2.1 27 (by decide) (by decide), bk.2.1 29 (by decide) (by decide)]
  exact h
theorem lwb_loop {st n : Nat} {a was : Int32} (ha : 0 ≤ a.toInt ∧ a.toInt ≤ 40) (ν0 : gs_M) : ∀ (m k fu fu2 B : Nat) (μ ν : gs_M), k + m = 3 → m < fu → m < fu2 → B + 40 * m < 1000000 → VR μ 56 (ν.1 89) (ν.1 83) (ν.2 78 33) st n B → SS μ ν → TK ν0 ν → ∃ (r : Int32) (μ' ν' : gs_M), L_X11_leanWithBallast_21 fu a (nI k) μ = some (r, μ') ∧ L_X12_leanBy_17 fu2 a was (nI k) ν = some (r, sI ν' 78 28 was) ∧ FT μ μ' ∧ BK ν0 ν' := by
  have fin : ∀ (B : Nat) (μ ν : gs_M), VR μ 56 (ν.1 89) (ν.1 83) (ν.2 78 33) st n B → SS μ ν → TK ν0 ν → ∃ (r : Int32) (ν' : gs_M), B_X11_leanWithBallast_51 μ = some (r, μ) ∧ B_X12_leanBy_43 was ν = some (r, sI ν' 78 28 was) ∧ BK ν0 ν' := by
    intro B μ ν hV hS hT
    obtain ⟨ν3, p1, p2⟩ := pb_e hT
    obtain ⟨r, l1, l2, -⟩ := lean_e hV.1 hS
    refine ⟨abN r, ν3, ?_, ?_, p2⟩
    · unfold B_X11_leanWithBallast_51 abN
      rw [l1, bd_s, lt1]
    · unfold B_X12_leanBy_43 abN
      rw [l2, bd_s, lt1, p1, bd0_s, lt1]
  intro m
  induction m with
  | zero =>
    intro k fu fu2 B μ ν hk hf hf2 hB hV hS hT
    obtain ⟨fu, rfl⟩ : ∃ m, fu = m + 1 := ⟨fu - 1, by omega⟩
    obtain ⟨fu2, rfl⟩ : ∃ m, fu2 = m + 1 := ⟨fu2 - 1, by omega⟩
    obtain ⟨r, ν', u1, u2, u3⟩ := fin B μ ν hV hS hT
    have h3 : (3 : Int32) ≤ nI k := by rw [show (3 : Int32) = nI 3 from rfl]; exact nI_le (by omega) (by omega)
    refine ⟨r, μ, ν', ?_, ?_, FT.refl, u3⟩
    · show Bo_X11_leanWithBallast_21 _ _ _ _ = _
      unfold Bo_X11_leanWithBallast_21
      rw [if_pos h3]; exact u1
    · show Bo_X12_leanBy_17 _ _ _ _ _ = _
      unfold Bo_X12_leanBy_17
      rw [if_pos h3]; exact u2
  | succ m ih =>
    intro k fu fu2 B μ ν hk hf hf2 hB hV hS hT
    obtain ⟨fu, rfl⟩ : ∃ m, fu = m + 1 := ⟨fu - 1, by omega⟩
    obtain ⟨fu2, rfl⟩ : ∃ m, fu2 = m + 1 := ⟨fu2 - 1, by omega⟩
    have h3 : ¬ (3 : Int32) ≤ nI k := by rw [show (3 : Int32) = nI 3 from rfl]; exact nI_ge (by omega) (by omega)
    have hlo := hV.2.2.2.1
    by_cases hz : ν.1 89 79 = 0
    · obtain ⟨μ2, ν2, t1, t2, t3, t4, t5, t6, -⟩ := roll_e hV hS (by decide) ha (by omega)
      obtain ⟨r, μ', ν', u1, u2, u3, u4⟩ := ih (k + 1) fu fu2 (B + 40) μ2 ν2 (by omega) (by omega) (by omega) (by omega) t4 (hS.w (by decide) t5 t6) (hT.r t6)
      refine ⟨r, μ', ν', ?_, ?_, (t5.ft (by decide) (by decide)).trans u3, u4⟩
      · show Bo_X11_leanWithBallast_21 _ _ _ _ = _
        unfold Bo_X11_leanWithBallast_21
        rw [if_neg h3, gI_d, hlo, if_pos hz, t1, bd_s, nI_1]; exact u1
      · show Bo_X12_leanBy_17 _ _ _ _ _ = _
        unfold Bo_X12_leanBy_17
        rw [if_neg h3, mnw_79, bd_s, if_pos hz, t2, bd0_s, nI_1]; exact u2
    · obtain ⟨r, ν', u1, u2, u3⟩ := fin B μ ν hV hS hT
      refine ⟨r, μ, ν', ?_, ?_, FT.refl, u3⟩
      · show Bo_X11_leanWithBallast_21 _ _ _ _ = _
        unfold Bo_X11_leanWithBallast_21
        rw [if_neg h3, gI_d, hlo, if_neg hz]; exact u1
      · show Bo_X12_leanBy_17 _ _ _ _ _ = _
        unfold Bo_X12_leanBy_17
        rw [if_neg h3, mnw_79, bd_s, if_neg hz]; exact u2
theorem lwb_e {μ ν : gs_M} {st n B : Nat} {a b : Int32} (ha : 0 ≤ a.toInt ∧ a.toInt ≤ 40) (hb : -999 ≤ b.toInt ∧ b.toInt ≤ 999) (hB : B < 900000) (hV : VR μ 26 (ν.1 89) (ν.1 83) (ν.2 78 33) st n B) (hQ : SQ μ ν) : ∃ (r : Int32) (μ' ν' : gs_M), D_X11_leanWithBallast b a μ = some (r, μ') ∧ D_X12_leanBy b a ν = some (r, ν') ∧ Fb μ μ' ∧ BK ν ν' := by
  obtain ⟨μa, hμa⟩ : ∃ μa, μa = sI μ 25 1 b := ⟨_, rfl⟩
  obtain ⟨νa, hνa⟩ : ∃ νa, νa = sI ν 78 28 b := ⟨_, rfl⟩
  have m1 : ∀ b, b ≠ 78 → νa.1 b = ν.1 b := fun b h => by rw [hνa, sI_n _ _ _ h]
  have m2 : νa.1 78 = upd (ν.1 78) 28 b := by rw [hνa, sI_s]
  have m3 : νa.2 = ν.2 := by rw [hνa]; rfl
  have hVa : VR μa 26 (νa.1 89) (νa.1 83) (νa.2 78 33) st n B := hV.cm (fun b _ _ => by rw [hμa, sI_n _ _ _ (by omega)]) (by rw [hμa]; rfl) (fun j _ => by rw [m1 89 (by decide)]) (m1 83 (by decide)) (by rw [m3])
  have hSa : SS μa νa := by
    unfold SS
    rw [hμa, sI_s, m2, pk_un (show 0 ≠ 1 by decide), pk_us, pk_un (show 2 ≠ 1 by decide), pk_un (show 27 ≠ 28 by decide), pk_us, pk_un (show 29 ≠ 28 by decide)]
    exact ⟨hQ.1, rfl, hQ.2.1, hQ.2.2, hb⟩
  obtain ⟨μ1, ν1, s1, s2, s3, s4, s5, s6, s7⟩ := tr_e (v := 56) (by decide) hVa
  have ft1 := s4.ft (by decide) (by decide)
  obtain ⟨r, μ', ν', u1, u2, u3, u4⟩ := lwb_loop (was := ν.1 78 28) ha νa 3 0 4096 4096 B μ1 ν1 (by omega) (by omega) (by omega) (by omega) s3 (hSa.tk ft1 s5) s5
  refine ⟨r, μ', sI ν' 78 28 (ν.1 78 28), ?_, ?_, ?_, ⟨fun b b1 b2 b3 => ?_, fun j j1 j2 => ?_, fun j hj => ?_, fun b hb => ?_, fun j hj => ?_⟩⟩
  · unfold D_X11_leanWithBallast
    rw [lt1, ← hμa, s1, bd0_s]; exact u1
  · unfold D_X12_leanBy
    rw [lt1, lt1, gI_d, ← hνa, s2, bd0_s]; exact u2
  · refine Fb.trans (μ1 := μa) ?_ (ft1.trans u3).b
    rw [hμa]; exact Fb.s
  · rw [sI_n _ _ _ b1, u4.1 b b1 b2 b3, m1 b b1]
  · rw [sI_s]
    by_cases q : j = 28
    · rw [q, pk_us]
    · rw [pk_un q, u4.2.1 j j1 j2, m2, pk_un q]
  · rw [sI_n _ _ _ (by decide), u4.2.2.1 j hj, m1 89 (by decide)]
  · rw [sI_L, u4.2.2.2.1 b hb, m3]
  · rw [sI_L, u4.2.2.2.2 j hj, m3]
theorem bal_loop {st n B : Nat} {a asSet : Int32} (ha : 0 ≤ a.toInt ∧ a.toInt ≤ 40) (hB : B < 900000) : ∀ (m t fu fu2 : Nat) (μ ν : gs_M) (x3 x4 : Int32), t + m = 20 → m < fu → m < fu2 → VR μ 26 (ν.1 89) (ν.1 83) (ν.2 78 33) st n B → SQ μ ν → (x3 = 0 ∨ ∃ s, s < t ∧ x3 = bv s) → ∃ (r : Int32) (μ' ν' : gs_M), L_X11_ballast_43 fu a asSet x3 x4 (bv t) μ = some (r, sI μ' 25 1 asSet) ∧ L_X12_ballast_40 fu2 a x3 x4 (bv t) ν = some (r, ν') ∧ Fb μ μ' ∧ BK ν ν' := by
  intro m
  induction m with
  | zero =>
    intro t fu fu2 μ ν x3 x4 ht hf hf2 hV hQ hx
    obtain ⟨fu, rfl⟩ : ∃ m, fu = m + 1 := ⟨fu - 1, by omega⟩
    obtain ⟨fu2, rfl⟩ : ∃ m, fu2 = m + 1 := ⟨fu2 - 1, by omega⟩
    have hb := bv_i (show t ≤ 20 by omega)
    refine ⟨x3, μ, ν, ?_, ?_, Fb.refl, BK.refl⟩
    · show Bo_X11_ballast_43 _ _ _ _ _ _ _ = _
      unfold Bo_X11_ballast_43
      rw [if_pos (by rw [ti_lt, hb, show (999 : Int32).toInt = 999 by decide]; omega), lt1]
    · show Bo_X12_ballast_40 _ _ _ _ _ _ = _
      unfold Bo_X12_ballast_40
      rw [if_pos (by rw [ti_lt, hb, show (901 : Int32).toInt = 901 by decide]; omega)]
  | succ m ih =>
    intro t fu fu2 μ ν x3 x4 ht hf hf2 hV hQ hx
    obtain ⟨fu, rfl⟩ : ∃ m, fu = m + 1 := ⟨fu - 1, by omega⟩
    obtain ⟨fu2, rfl⟩ : ∃ m, fu2 = m + 1 := ⟨fu2 - 1, by omega⟩
    have hb := bv_i (show t ≤ 20 by omega)
    have hne : abN (bv t) ≠ abN x3 := by
      rcases hx with rfl | ⟨s, hs, rfl⟩
      · exact (bv_ne t (by omega)).1
      · exact (bv_ne t (by omega)).2 s hs
    unfold abN at hne
    obtain ⟨r, μ1, ν1, s1, s2, s3, s4⟩ := lwb_e (a := a) (b := bv t) ha (by rw [hb]; omega) hB hV hQ
    have q1 : ¬ (999 : Int32) < bv t := by rw [ti_lt, hb, show (999 : Int32).toInt = 999 by decide]; omega
    have q2 : ¬ (901 : Int32) < bv t := by rw [ti_lt, hb, show (901 : Int32).toInt = 901 by decide]; omega
    obtain ⟨tk, htk⟩ : ∃ tk : Prop, tk ↔ (r < x4 ∨ (r = x4 ∧ (if 0 ≤ bv t then bv t else 0 - bv t) < (if 0 ≤ x3 then x3 else 0 - x3))) := ⟨_, Iff.rfl⟩
    have cl : ∀ y3 y4 : Int32, ((tk ∧ y3 = bv t ∧ y4 = r) ∨ (¬ tk ∧ y3 = x3 ∧ y4 = x4)) → L_X11_ballast_43 (fu + 1) a asSet x3 x4 (bv t) μ = L_X11_ballast_43 fu a asSet y3 y4 (bv (t + 1)) μ1 := by
      intro y3 y4 hy
      show Bo_X11_ballast_43 _ _ _ _ _ _ _ = _
      unfold Bo_X11_ballast_43 B_X11_ballast_86
      rw [if_neg q1, s1, bd_s, lt1, lt1, bv_s]
      by_cases z1 : r < x4
      · have : tk := htk.mpr (Or.inl z1)
        rcases hy with ⟨-, rfl, rfl⟩ | ⟨hn, -⟩
        · rw [if_pos z1]
        · exact absurd this hn
      · rw [if_neg z1]
        by_cases z2 : r = x4
        · rw [if_pos z2]
          by_cases z3 : (if 0 ≤ bv t then bv t else 0 - bv t) < (if 0 ≤ x3 then x3 else 0 - x3)
          · have : tk := htk.mpr (Or.inr ⟨z2, z3⟩)
            rcases hy with ⟨-, rfl, rfl⟩ | ⟨hn, -⟩
            · rw [if_neg (by rw [ti_le]; rw [ti_lt] at z3; omega)]
            · exact absurd this hn
          · have : ¬ tk := fun q => (htk.mp q).elim z1 (fun q => z3 q.2)
            rcases hy with ⟨hp, -⟩ | ⟨-, rfl, rfl⟩
            · exact absurd hp this
            · rw [if_pos (by rw [ti_le]; rw [ti_lt] at z3; omega)]
        · rw [if_neg z2]
          have : ¬ tk := fun q => (htk.mp q).elim z1 (fun q => z2 q.1)
          rcases hy with ⟨hp, -⟩ | ⟨-, rfl, rfl⟩
          · exact absurd hp this
          · rfl
    have ml : ∀ y3 y4 : Int32, ((tk ∧ y3 = bv t ∧ y4 = r) ∨ (¬ tk ∧ y3 = x3 ∧ y4 = x4)) → L_X12_ballast_40 (fu2 + 1) a x3 x4 (bv t) ν = L_X12_ballast_40 fu2 a y3 y4 (bv (t + 1)) ν1 := by
      intro y3 y4 hy
      show Bo_X12_ballast_40 _ _ _ _ _ _ = _
      unfold Bo_X12_ballast_40 B_X12_ballast_81 D_X12_isNearer
      rw [if_neg q2, s2, bd_s, lt1, lt1, lt1, lt1, if_neg hne, bv_s]
      by_cases z0 : x4 < r
      · rw [if_pos z0]
        have : ¬ tk := fun q => by
          rw [ti_lt] at z0
          rcases htk.mp q with q | ⟨q, -⟩
          · rw [ti_lt] at q; omega
          · rw [q] at z0; omega
        rcases hy with ⟨hp, -⟩ | ⟨-, rfl, rfl⟩
        · exact absurd hp this
        · rfl
      · rw [if_neg z0]
        by_cases z2 : r = x4
        · rw [if_pos z2]
          by_cases z3 : (if 0 ≤ bv t then bv t else 0 - bv t) < (if 0 ≤ x3 then x3 else 0 - x3)
          · have : tk := htk.mpr (Or.inr ⟨z2, z3⟩)
            rcases hy with ⟨-, rfl, rfl⟩ | ⟨hn, -⟩
            · rw [if_neg (show ¬ (if 0 ≤ x3 then x3 else 0 - x3) ≤ (if 0 ≤ bv t then bv t else 0 - bv t) by rw [ti_le]; rw [ti_lt] at z3; omega), bd_s, if_neg z10]
            · exact absurd this hn
          · have : ¬ tk := fun q => (htk.mp q).elim (fun q => by rw [ti_lt, z2] at q; omega) (fun q => z3 q.2)
            rcases hy with ⟨hp, -⟩ | ⟨-, rfl, rfl⟩
            · exact absurd hp this
            · rw [if_pos (show (if 0 ≤ y3 then y3 else 0 - y3) ≤ (if 0 ≤ bv t then bv t else 0 - bv t) by rw [ti_le]; rw [ti_lt] at z3; omega), bd_s, if_pos rfl]
        · rw [if_neg z2]
          have : tk := htk.mpr (Or.inl (by
            rw [ti_lt] at z0 ⊢
            have : r.toInt ≠ x4.toInt := fun e => z2 (ti_ext e)
            omega))
          rcases hy with ⟨-, rfl, rfl⟩ | ⟨hn, -⟩
          · rfl
          · exact absurd this hn
    obtain ⟨y3, y4, hy, hy3⟩ : ∃ y3 y4 : Int32, ((tk ∧ y3 = bv t ∧ y4 = r) ∨ (¬ tk ∧ y3 = x3 ∧ y4 = x4)) ∧ (y3 = 0 ∨ ∃ s, s < t + 1 ∧ y3 = bv s) := by
      by_cases q : tk
      · exact ⟨bv t, r, Or.inl ⟨q, rfl, rfl⟩, Or.inr ⟨t, by omega, rfl⟩⟩
      · exact ⟨x3, x4, Or.inr ⟨q, rfl, rfl⟩, hx.imp id (fun ⟨s, h1, h2⟩ => ⟨s, by omega, h2⟩)⟩
    obtain ⟨q, μ', ν', u1, u2, u3, u4⟩ := ih (t + 1) fu fu2 μ1 ν1 y3 y4 (by omega) (by omega) (by omega) (hV.fb s3 s4) (hQ.fb s3 s4) hy3
    exact ⟨q, μ', ν', (cl y3 y4 hy).trans u1, (ml y3 y4 hy).trans u2, s3.trans u3, s4.trans u4⟩
theorem k_ballast {i : Nat} (hi : i ≤ 4096) (y0 : Int32) : CALLS i (D_X11_ballast y0) (D_X12_ballast y0) := by
  intro μ ν0 h0
  obtain ⟨ν, hν, h, he⟩ := th_e h0
  obtain ⟨st, hU, hL, hI, hQ, hgo⟩ := rt_live h
  have hS := hQ.1
  unfold D_X11_ballast D_X12_ballast 
  simp only [lt1, ← hν, wi_e, ii_e, bd_s]
  rcases rdy_e hL with ⟨rc, rm⟩ | ⟨rc, rm, n, hV, hz⟩
  · exact fin_e (r := -1000000) h he (by simp only [rc, bd_s, if_true]) (by simp only [rm, bd_s, if_true])
  rcases inN_k y0 (lo := 0) (hi := 40) (L := 0) (H := 40) (by decide) (by decide) with z0 | ⟨z0, a0, b0⟩
  · exact fin_e (r := -1000000) h he (by simp only [rc, bd_s, if_neg z10, z0, if_true]) (by simp only [rm, bd_s, if_neg z10, z0, if_true])
  simp only [rc, rm, bd_s, if_neg z10, z0]
  have hq : SQ μ ν := ⟨hS.1, hS.2.2.1, hS.2.2.2.1⟩
  obtain ⟨r, μ1, ν1, s1, s2, s3, s4⟩ := lwb_e (a := y0) (b := 0) ⟨a0, b0⟩ (by decide) (show 20 * i < 900000 by omega) hV hq
  obtain ⟨q, μ', ν', u1, u2, u3, u4⟩ := bal_loop (asSet := μ.1 25 1) ⟨a0, b0⟩ (show 20 * i < 900000 by omega) 20 0 4096 4096 μ1 ν1 0 r (by omega) (by omega) (by omega) (hV.fb s3 s4) (hq.fb s3 s4) (Or.inl rfl)
  have hft : FT μ (sI μ' 25 1 (μ.1 25 1)) := fun b hb => by
    have hf := s3.trans u3
    refine ⟨?_, (hf.1 b hb).2⟩
    by_cases q : b = 25
    · subst q
      rw [sI_s]
      funext j
      by_cases q : j = 1
      · rw [q, pk_us]
      · rw [pk_un q, hf.2 j q]
    · rw [sI_n _ _ _ q]; exact (hf.1 b hb).1 q
  refine tfin_e (r := q) h he hft (s4.trans u4) ?_ ?_
  · rw [gI_d, s1, bd_s]; exact u1
  · rw [s2, bd_s]; exact u2
