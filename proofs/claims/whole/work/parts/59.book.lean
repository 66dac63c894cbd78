/-! book, reach -/
def Fs (S : Nat → Prop) (μ μ' : gs_M) : Prop := ∀ b, b < 46 ∨ 66 ≤ b → (¬ S b → μ'.1 b = μ.1 b) ∧ μ'.2 b = μ.2 b
theorem Fs.refl {S : Nat → Prop} {μ : gs_M} : Fs S μ μ := fun _ _ => ⟨fun _ => rfl, rfl⟩
theorem Fs.trans {S : Nat → Prop} {μ0 μ1 μ2 : gs_M} (h : Fs S μ0 μ1) (g : Fs S μ1 μ2) : Fs S μ0 μ2 := fun b hb => ⟨fun q => ((g b hb).1 q).trans ((h b hb).1 q), (g b hb).2.trans (h b hb).2⟩
theorem FT.s {S : Nat → Prop} {μ μ' : gs_M} (h : FT μ μ') : Fs S μ μ' := fun b hb => ⟨fun _ => (h b hb).1, (h b hb).2⟩
theorem VR.fs {S : Nat → Prop} {μ ν μ' ν' : gs_M} {st n B : Nat} (h : VR μ 26 (ν.1 89) (ν.1 83) (ν.2 78 33) st n B) (hS : ∀ b, S b → b < 26 ∨ 36 ≤ b) (ft : Fs S μ μ') (bk : BK ν ν') : VR μ' 26 (ν'.1 89) (ν'.1 83) (ν'.2 78 33) st n B :=
  h.cm (fun b h1 h2 => (ft b (by omega)).1 (fun q => by have := hS b q; omega)) (ft 26 (by omega)).2 bk.2.2.1 (bk.1 83 (by decide) (by decide) (by decide)) (bk.2.2.2.2 33 (by decide))
theorem sfin_e {S : Nat → Prop} {i : Nat} {μ μ' ν0 ν ν' : gs_M} {r : Int32} {x y : Option (Int32 × gs_M)} (hS : ∀ b, S b → 75 ≤ b ∧ b < 78) (h : RT i μ ν) (he : eM ν0 ν) (ft : Fs S μ μ') (bk : BK ν ν') (hx : x = some (r, μ')) (hy : y = some (r, ν')) : ∃ (r : Int32) (μ' ν' : gs_M), x = some (r, μ') ∧ y = some (r, ν') ∧ RT (i + 8) μ' ν' ∧ eC μ μ' ∧ eM ν0 ν' := by
  have ns : ∀ b, (b < 75 ∨ 78 ≤ b) → ¬ S b := fun b hb q => by have := hS b q; omega
  refine ⟨r, μ', ν', hx, hy, ?_, fun b hb => ⟨(ft b (by omega)).1 (ns b (by omega)), (ft b (by omega)).2⟩, eM.trans he (fun b hb => ⟨bk.1 b (by omega) (by omega) (by omega), bk.2.2.2.1 b (by omega)⟩)⟩
  obtain ⟨b1, b2, b3, b4, b5⟩ := bk
  exact h.go (by omega) ⟨fun b hb => (ft b (by omega)).1 (ns b (by omega)), by rw [(ft 16 (by omega)).1 (ns 16 (by omega))], (ft 26 (by omega)).2, (ft 36 (by omega)).2⟩ ⟨fun b hb => b1 b (by omega) (by omega) (by omega), b3, fun j hj => b2 j (by omega) (by omega), b5 33 (by decide), b5 35 (by decide)⟩
/-- the lean that a roll by 5 (j + 1) would give, in whatever scratch the reference has -/
def RK (ν : gs_M) (j : Nat) (r : Int32) : Prop := ∀ ν', BK ν ν' → ∃ ν1 ν2 ν3, D_X12_keeps ν' = some ν1 ∧ D_X12_rolls (nI (5 * (j + 1))) ν1 = some ν2 ∧ D_X12_lean ν2 = some (r, ν2) ∧ D_X12_putBack ν2 = some ν3 ∧ BK ν' ν3
theorem bk_loop {ν : gs_M} {st n B : Nat} {times : Int32} (hB : B < 900000) : ∀ (m k fu : Nat) (μ : gs_M), k + m = 8 → VR μ 26 (ν.1 89) (ν.1 83) (ν.2 78 33) st n B → SS μ ν → ∃ μ' : gs_M, L_X11_book_21 (fu + m) times (nI k) μ = L_X11_book_21 fu times (nI 8) μ' ∧ Fs (fun b => b = 75) μ μ' ∧ (∀ j, j < k → μ'.1 75 j = μ.1 75 j) ∧ (∀ j, k ≤ j → j < 8 → RK ν j (μ'.1 75 j)) := by
  intro m
  induction m with
  | zero =>
    intro k fu μ hk hV hS
    obtain rfl : k = 8 := by omega
    exact ⟨μ, rfl, Fs.refl, fun _ _ => rfl, fun j h1 h2 => absurd h1 (by omega)⟩
  | succ m ih =>
    intro k fu μ hk hV hS
    have hx : 0 ≤ (nI (5 * (k + 1))).toInt ∧ (nI (5 * (k + 1))).toInt ≤ 40 := by rw [nI_toInt (by omega)]; omega
    obtain ⟨μ2, ν1, ν2, t1, t2, t3, t4, t5, t6, t7, t8, t9⟩ := tryR_e hV hS hx (by omega)
    obtain ⟨r, l1, l2, -⟩ := lean_e t5.1 t8
    obtain ⟨μ3, hμ3⟩ : ∃ μ3, μ3 = sI μ2 75 k r := ⟨_, rfl⟩
    have f3 : Fs (fun b => b = 75) μ μ3 := t6.s.trans (fun b hb => ⟨fun q => by rw [hμ3, sI_n _ _ _ q], by rw [hμ3]; rfl⟩)
    have e3 : μ3.1 75 = upd (μ.1 75) k r := by rw [hμ3, sI_s, (t6 75 (by omega)).1]
    have hrk : RK ν k r := by
      intro ν' bk
      obtain ⟨μ2', ν1', ν2', t1', t2', t3', t4', t5', t6', t7', t8', t9'⟩ := tryR_e (hV.tb FT.refl bk) (hS.tb FT.refl bk) hx (by omega)
      obtain ⟨r', l1', l2', -⟩ := lean_e t5'.1 t8'
      obtain ⟨ν3', p1, p2⟩ := pb_e t7'
      rw [t1] at t1'
      have e : μ2' = μ2 := (Prod.mk.inj (Option.some.inj t1')).2.symm
      rw [e, l1] at l1'
      cases l1'
      exact ⟨ν1', ν2', ν3', t2', t3', l2', p1, p2⟩
    have hS3 : SS μ3 ν := hS.go ((f3 25 (by omega)).1 (by decide)) (fun _ _ _ => rfl)
    obtain ⟨μ', u1, u2, u3, u4⟩ := ih (k + 1) fu μ3 (by omega) (hV.fs (fun b hb => by omega) f3 BK.refl) hS3
    refine ⟨μ', ?_, f3.trans u2, fun j hj => ?_, fun j h1 h2 => ?_⟩
    · refine Eq.trans ?_ u1
      show Bo_X11_book_21 _ _ _ _ = _
      unfold Bo_X11_book_21
      rw [if_neg (show ¬ (8 : Int32) ≤ nI k from nI_ge (a := k) (b := 8) (by omega) (by omega)), nI_1, show (5 : Int32) * nI (k + 1) = nI (5 * (k + 1)) by rw [show (5 : Int32) = nI 5 from rfl, pk_mul], t1, bd_s, l1, bd_s, inb_n (show k < 8 by omega) (by decide), ck_t, nI_clamp (by omega), lt1, ← hμ3]
      rfl
    · rw [u3 j (by omega), e3, pk_un (by omega)]
    · by_cases q : j = k
      · subst q
        rw [u3 j (by omega), e3, pk_us]
        exact hrk
      · exact u4 j (by omega) h2
theorem off_loop {μ ν : gs_M} {times now : Int32} (hR : ∀ j, j < 8 → RK ν j (μ.1 75 j)) (hl : ∀ ν', BK ν ν' → D_X12_lean ν' = some (now, ν')) : ∀ (m k fu fu2 : Nat) (ν' : gs_M) (x : Int32), k + m = 8 → m < fu → m < fu2 → BK ν ν' → ∃ (r : Int32) (ν'' : gs_M), L_X11_bookIsOff_13 fu times now x (nI k) μ = some (r, μ) ∧ L_X12_offBy_4 fu2 times x (nI (5 * (k + 1))) ν' = some (r, ν'') ∧ BK ν ν'' := by
  intro m
  induction m with
  | zero =>
    intro k fu fu2 ν' x hk hf hf2 hb
    obtain ⟨fu, rfl⟩ : ∃ m, fu = m + 1 := ⟨fu - 1, by omega⟩
    obtain ⟨fu2, rfl⟩ : ∃ m, fu2 = m + 1 := ⟨fu2 - 1, by omega⟩
    refine ⟨x, ν', ?_, ?_, hb⟩
    · show Bo_X11_bookIsOff_13 _ _ _ _ _ _ = _
      unfold Bo_X11_bookIsOff_13
      rw [if_pos (show (8 : Int32) ≤ nI k by rw [show (8 : Int32) = nI 8 from rfl]; exact nI_le (by omega) (by omega))]
    · show Bo_X12_offBy_4 _ _ _ _ _ = _
      unfold Bo_X12_offBy_4
      rw [if_pos (show (40 : Int32) < nI (5 * (k + 1)) by rw [show (40 : Int32) = nI 40 from rfl]; exact nI_lt (by omega) (by omega))]
  | succ m ih =>
    intro k fu fu2 ν' x hk hf hf2 hb
    obtain ⟨fu, rfl⟩ : ∃ m, fu = m + 1 := ⟨fu - 1, by omega⟩
    obtain ⟨fu2, rfl⟩ : ∃ m, fu2 = m + 1 := ⟨fu2 - 1, by omega⟩
    have q1 : ¬ (8 : Int32) ≤ nI k := nI_ge (a := k) (b := 8) (by omega) (by omega)
    have q2 : ¬ (40 : Int32) < nI (5 * (k + 1)) := by rw [show (40 : Int32) = nI 40 from rfl]; exact nI_nlt (by omega) (by omega)
    obtain ⟨ν1, ν2, ν3, t1, t2, t3, t4, t5⟩ := hR k (by omega) ν' hb
    obtain ⟨y, hy⟩ : ∃ y, y = (if 0 ≤ now then now + times * nI (5 * (k + 1)) / 10 else now - times * nI (5 * (k + 1)) / 10) := ⟨_, rfl⟩
    obtain ⟨r, ν'', u1, u2, u3⟩ := ih (k + 1) fu fu2 ν3 (x + (if 0 ≤ y - μ.1 75 k then y - μ.1 75 k else 0 - (y - μ.1 75 k))) (by omega) (by omega) (by omega) (hb.trans t5)
    have em : times * 5 * (nI k + 1) = times * nI (5 * (k + 1)) := by
      rw [Int32.mul_assoc, nI_1, show (5 : Int32) = nI 5 from rfl, pk_mul]
    have e5 : nI (5 * (k + 1)) + 5 = nI (5 * (k + 1 + 1)) := by
      rw [show (5 : Int32) = nI 5 from rfl, nI_add]
      congr 1
    refine ⟨r, ν'', ?_, ?_, u3⟩
    · show Bo_X11_bookIsOff_13 _ _ _ _ _ _ = _
      unfold Bo_X11_bookIsOff_13 B_X11_bookIsOff_48
      rw [if_neg q1, lt1, em]
      by_cases z : 0 ≤ now
      · rw [if_pos z] at hy ⊢
        rw [← hy, inb_n (show k < 8 by omega) (by decide), ck_t, nI_clamp (by omega), lt1, lt1, gI_d, nI_1]
        exact u1
      · rw [if_neg z] at hy ⊢
        rw [← hy, inb_n (show k < 8 by omega) (by decide), ck_t, nI_clamp (by omega), lt1, lt1, gI_d, nI_1]
        exact u1
    · show Bo_X12_offBy_4 _ _ _ _ _ = _
      unfold Bo_X12_offBy_4 B_X12_offBy_42
      rw [if_neg q2, lt1, hl ν' hb, bd_s]
      by_cases z : 0 ≤ now
      · rw [if_pos z] at hy ⊢
        rw [hl ν' hb, bd_s, ← hy, t1, bd0_s, t2, bd0_s, t3, bd_s, lt1, lt1, t4, bd0_s, e5]
        exact u2
      · rw [if_neg z] at hy ⊢
        rw [hl ν' hb, bd_s, ← hy, t1, bd0_s, t2, bd0_s, t3, bd_s, lt1, lt1, t4, bd0_s, e5]
        exact u2
theorem off_e {μ ν : gs_M} {now times : Int32} (hR : ∀ j, j < 8 → RK ν j (μ.1 75 j)) (hc : D_X10_lean 26 μ = some (now, μ)) (hl : ∀ ν', BK ν ν' → D_X12_lean ν' = some (now, ν')) {ν' : gs_M} (hb : BK ν ν') : ∃ (r : Int32) (ν'' : gs_M), D_X11_bookIsOff times μ = some (r, μ) ∧ D_X12_offBy times ν' = some (r, ν'') ∧ BK ν ν'' := by
  obtain ⟨r, ν'', u1, u2, u3⟩ := off_loop (times := times) hR hl 8 0 4096 4096 ν' 0 (by omega) (by omega) (by omega) hb
  refine ⟨r, ν'', ?_, u2, u3⟩
  unfold D_X11_bookIsOff
  rw [hc, bd_s]
  exact u1
theorem bt_loop {μ ν : gs_M} {now : Int32} (hR : ∀ j, j < 8 → RK ν j (μ.1 75 j)) (hc : D_X10_lean 26 μ = some (now, μ)) (hl : ∀ ν', BK ν ν' → D_X12_lean ν' = some (now, ν')) : ∀ (m k fu fu2 : Nat) (ν' : gs_M) (x y : Int32), k + m = 100 → m < fu → m < fu2 → BK ν ν' → ∃ (r : Int32) (ν'' : gs_M), L_X11_bestTimes_10 fu x y (nI k) μ = some (r, μ) ∧ L_X12_book_51 fu2 x y (nI k) ν' = some (r, ν'') ∧ BK ν ν'' := by
  intro m
  induction m with
  | zero =>
    intro k fu fu2 ν' x y hk hf hf2 hb
    obtain ⟨fu, rfl⟩ : ∃ m, fu = m + 1 := ⟨fu - 1, by omega⟩
    obtain ⟨fu2, rfl⟩ : ∃ m, fu2 = m + 1 := ⟨fu2 - 1, by omega⟩
    have q : (99 : Int32) < nI k := by rw [show (99 : Int32) = nI 99 from rfl]; exact nI_lt (by omega) (by omega)
    refine ⟨x, ν', ?_, ?_, hb⟩
    · show Bo_X11_bestTimes_10 _ _ _ _ _ = _
      unfold Bo_X11_bestTimes_10
      rw [if_pos q]
    · show Bo_X12_book_51 _ _ _ _ _ = _
      unfold Bo_X12_book_51
      rw [if_pos q]
  | succ m ih =>
    intro k fu fu2 ν' x y hk hf hf2 hb
    obtain ⟨fu, rfl⟩ : ∃ m, fu = m + 1 := ⟨fu - 1, by omega⟩
    obtain ⟨fu2, rfl⟩ : ∃ m, fu2 = m + 1 := ⟨fu2 - 1, by omega⟩
    have q : ¬ (99 : Int32) < nI k := by rw [show (99 : Int32) = nI 99 from rfl]; exact nI_nlt (by omega) (by omega)
    obtain ⟨r, ν1, u1, u2, u3⟩ := off_e (times := nI k) hR hc hl hb
    by_cases z : r < y
    · obtain ⟨r2, ν2, w1, w2, w3⟩ := ih (k + 1) fu fu2 ν1 (nI k) r (by omega) (by omega) (by omega) u3
      refine ⟨r2, ν2, ?_, ?_, w3⟩
      · show Bo_X11_bestTimes_10 _ _ _ _ _ = _
        unfold Bo_X11_bestTimes_10
        rw [if_neg q, u1, bd_s, if_neg (by rw [ti_le]; rw [ti_lt] at z; omega), nI_1]
        exact w1
      · show Bo_X12_book_51 _ _ _ _ _ = _
        unfold Bo_X12_book_51
        rw [if_neg q, u2, bd_s, if_pos z, nI_1]
        exact w2
    · obtain ⟨r2, ν2, w1, w2, w3⟩ := ih (k + 1) fu fu2 ν1 x y (by omega) (by omega) (by omega) u3
      refine ⟨r2, ν2, ?_, ?_, w3⟩
      · show Bo_X11_bestTimes_10 _ _ _ _ _ = _
        unfold Bo_X11_bestTimes_10
        rw [if_neg q, u1, bd_s, if_pos (by rw [ti_le]; rw [ti_lt] at z; omega), nI_1]
        exact w1
      · show Bo_X12_book_51 _ _ _ _ _ = _
        unfold Bo_X12_book_51
        rw [if_neg q, u2, bd_s, if_neg z, nI_1]
        exact w2
theorem k_book {i : Nat} (hi : i ≤ 4096) (y : Int32) : CALLS i (D_X11_book y) (D_X12_book y) := by
  intro μ ν0 h0
  obtain ⟨ν, hν, h, he⟩ := th_e h0
  obtain ⟨st, hU, hL, hI, hQ, hgo⟩ := rt_live h
  have hS := hQ.1
  unfold D_X11_book D_X12_book
  rw [lt1, ← hν]
  rcases rdy_e hL with ⟨rc, rm⟩ | ⟨rc, rm, n, hV, hz⟩
  · exact fin_e (r := -1) h he (by rw [rc, bd_s, if_pos rfl]) (by rw [rm, bd_s, if_pos rfl])
  rw [rc, bd_s, if_neg z10, rm, bd_s, if_neg z10, wi_e, bd_s, ii_e, bd_s]
  by_cases hm : inN y (-1) 99 = 0
  · have h1 : ¬ y = -1 := fun q => by rw [q] at hm; exact absurd hm (by decide)
    have h2 : inN y 0 99 = 0 := by
      rcases inN_k y (lo := 0) (hi := 99) (L := 0) (H := 99) (by decide) (by decide) with z | ⟨z, a, b⟩
      · exact z
      · rw [inN_y (lo := -1) (hi := 99) (by rw [show (-1 : Int32).toInt = -1 by decide]; omega) (by rw [show (99 : Int32).toInt = 99 by decide]; omega)] at hm
        exact absurd hm z10
    exact fin_e (r := -1) h he (by rw [hm, if_pos rfl]) (by rw [if_neg h1, h2, if_pos rfl])
  · rcases inN_k y (lo := -1) (hi := 99) (L := -1) (H := 99) (by decide) (by decide) with z | ⟨z, a, b⟩
    · exact absurd z hm
    obtain ⟨μ', s1, s2, s3, s4⟩ := bk_loop (times := y) (show 20 * i < 900000 by omega) 8 0 4088 μ (by omega) hV hS
    have s1' : L_X11_book_21 4096 y 0 μ = L_X11_book_21 (4087 + 1) y (nI 8) μ' := s1
    have s1'' : L_X11_book_21 (4087 + 1) y (nI 8) μ' = (if y = (-1 : Int32) then (bd (D_X11_bestTimes μ') (fun v8 u7 => some (v8, u7))) else (bd (D_X11_bookIsOff y μ') (fun v5 u4 => some (v5, u4)))) := by
      show Bo_X11_book_21 _ _ _ _ = _
      unfold Bo_X11_book_21
      rw [if_pos (show (8 : Int32) ≤ nI 8 from nI_le (a := 8) (Nat.le_refl _) (by omega))]
    have hR : ∀ j, j < 8 → RK ν j (μ'.1 75 j) := fun j hj => s4 j (by omega) hj
    have hV' := hV.fs (fun b hb => by omega) s2 (BK.refl (ν := ν))
    have hS' : SS μ' ν := hS.go ((s2 25 (by omega)).1 (by decide)) (fun _ _ _ => rfl)
    obtain ⟨now, l1, l2, -⟩ := lean_e hV'.1 hS'
    have hl : ∀ ν', BK ν ν' → D_X12_lean ν' = some (now, ν') := fun ν' bk => by
      obtain ⟨now', l1', l2', -⟩ := lean_e (hV'.tb FT.refl bk).1 (hS'.tb FT.refl bk)
      rw [l1] at l1'
      cases l1'
      exact l2'
    rw [z, if_neg z10, s1', s1'']
    by_cases q : y = -1
    · rw [if_pos q, if_pos q]
      obtain ⟨r, ν1, u1, u2, u3⟩ := off_e (times := 0) hR l1 hl (BK.refl (ν := ν))
      obtain ⟨r2, ν2, w1, w2, w3⟩ := bt_loop hR l1 hl 99 1 4096 4096 ν1 0 r (by omega) (by omega) (by omega) u3
      refine sfin_e (r := r2) (S := fun b => b = 75) (fun b hb => by omega) h he s2 w3 ?_ ?_
      · unfold D_X11_bestTimes
        rw [u1, bd_s]
        rw [show L_X11_bestTimes_10 4096 0 r 1 μ' = some (r2, μ') from w1, bd_s]
      · unfold B_X12_book_29
        rw [if_pos q, u2, bd_s]
        exact w2
    · have h2 : inN y 0 99 = 1 := inN_y (by
        have : y.toInt ≠ -1 := fun e => q (ti_ext (by rw [e]; decide))
        rw [show (0 : Int32).toInt = 0 by decide]; omega) (by rw [show (99 : Int32).toInt = 99 by decide]; omega)
      obtain ⟨r, ν1, u1, u2, u3⟩ := off_e (times := y) hR l1 hl (BK.refl (ν := ν))
      refine sfin_e (r := r) (S := fun b => b = 75) (fun b hb => by omega) h he s2 u3 ?_ ?_
      · rw [if_neg q, u1, bd_s]
      · rw [if_neg q, h2, if_neg z10]
        unfold B_X12_book_29
        rw [if_neg q, u2, bd_s]
