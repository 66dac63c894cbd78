/-! cheapest, agree -/
theorem csN_n {μ ν : gs_M} {s p r : Nat} (h : sPr μ ν s p r) : ∀ k, k ≤ r → ∃ n : Nat, n ≤ 1400 * k ∧ csN ν s p (-1) 0 0 k = nI n
  | 0, _ => ⟨0, by omega, rfl⟩
  | k + 1, hk => by
    obtain ⟨n, n1, n2⟩ := csN_n h k (by omega)
    have h' := h
    obtain ⟨sh, pl, -, -, -, -, -, -, -, -, ⟨_, _, _, _, q5⟩, ⟨_, hr4, _, _, p5⟩⟩ := h'
    obtain ⟨-, c, hh, c1, c2, c3, c4, c5, c6⟩ := q5 k (by omega)
    obtain ⟨-, g, f, t, b, sa, g1, f1, t1, b1, s1, g2, f2, t2, b2, s2⟩ := p5 k (by omega)
    have hcs : c * sa ≤ 36 := Nat.mul_le_mul c2 s1
    have e : csN ν s p (-1) 0 0 (k + 1) = csN ν s p (-1) 0 0 k + csT ν s p (-1) 0 0 k + (if ν.1 85 (20 * p + 5 * k + 2) = 1 then ν.1 85 (20 * p + 5 * k + 1) else 0) := rfl
    have eT : csT ν s p (-1) 0 0 k = nI (3 * b + 20 * (c * sa)) := by
      unfold csT
      rw [if_neg (nI_nm1 (by omega)), if_neg (nI_nm1 (by omega)), b2, s2, c5, show (3 : Int32) = nI 3 from rfl, show (20 : Int32) = nI 20 from rfl, pk_mul, pk_mul, pk_mul, nI_add, Nat.mul_assoc]
    by_cases z : ν.1 85 (20 * p + 5 * k + 2) = 1
    · exact ⟨n + (3 * b + 20 * (c * sa)) + f, by omega, by rw [e, n2, eT, if_pos z, f2, nI_add, nI_add]⟩
    · exact ⟨n + (3 * b + 20 * (c * sa)), by omega, by rw [e, n2, eT, if_neg z, nI_add, Int32.add_zero]⟩
theorem ch_loop {i s N D b : Nat} {sea : Int32} (hsea : 0 ≤ sea.toInt ∧ sea.toInt ≤ 30) (hD : D < 100) (hN : N ≤ 5) (hb : b ≤ 5) : ∀ (m q fu fu2 pl : Nat) (μ ν : gs_M) (x6 x7 : Int32), q + m = pl → m < fu → m < fu2 → pl ≤ 6 → RT i μ ν → μ.1 13 3 = nI pl → ν.1 78 26 = nI pl → ∃ (r : Int32) (μ' ν' : gs_M), L_X11_cheapest_42 fu (nI s) sea (nI D) (nI N) (nI b) x6 x7 (nI q) μ = some (r, μ') ∧ L_X12_cheapest_44 fu2 (nI s) sea (nI D) (nI N) (nI b) x6 x7 (nI q) ν = some (r, ν') ∧ FT μ μ' ∧ BK ν ν' := by
  intro m
  induction m with
  | zero =>
    intro q fu fu2 pl μ ν x6 x7 hq hf hf2 hpl h e1 e2
    obtain ⟨fu, rfl⟩ : ∃ m, fu = m + 1 := ⟨fu - 1, by omega⟩
    obtain ⟨fu2, rfl⟩ : ∃ m, fu2 = m + 1 := ⟨fu2 - 1, by omega⟩
    refine ⟨x6, μ, ν, ?_, ?_, FT.refl, BK.refl⟩
    · show Bo_X11_cheapest_42 _ _ _ _ _ _ _ _ _ _ = _
      unfold Bo_X11_cheapest_42
      rw [gI_d, e1, if_pos (nI_le (by omega) (by omega))]
    · show Bo_X12_cheapest_44 _ _ _ _ _ _ _ _ _ _ = _
      unfold Bo_X12_cheapest_44
      rw [gI_d, e2, if_pos (nI_le (by omega) (by omega))]
  | succ m ih =>
    intro q fu fu2 pl μ ν x6 x7 hq hf hf2 hpl h e1 e2
    obtain ⟨fu, rfl⟩ : ∃ m, fu = m + 1 := ⟨fu - 1, by omega⟩
    obtain ⟨fu2, rfl⟩ : ∃ m, fu2 = m + 1 := ⟨fu2 - 1, by omega⟩
    obtain ⟨st, hU, -, -, hQ, -⟩ := rt_live h
    have hS := hQ.1
    have next : ∀ (μ1 ν1 : gs_M) (y6 y7 : Int32), FT μ μ1 → BK ν ν1 → ∃ (r : Int32) (μ' ν' : gs_M), L_X11_cheapest_42 fu (nI s) sea (nI D) (nI N) (nI b) y6 y7 (nI (q + 1)) μ1 = some (r, μ') ∧ L_X12_cheapest_44 fu2 (nI s) sea (nI D) (nI N) (nI b) y6 y7 (nI (q + 1)) ν1 = some (r, ν') ∧ FT μ μ' ∧ BK ν ν' := by
      intro μ1 ν1 y6 y7 ft bk
      obtain ⟨r, μ', ν', t1, t2, t3, t4⟩ := ih (q + 1) fu fu2 pl μ1 ν1 y6 y7 (by omega) (by omega) (by omega) hpl (h.tb (Nat.le_refl _) ft bk) (by rw [(ft 13 (by omega)).1]; exact e1) (by rw [bk.2.1 26 (by decide) (by decide)]; exact e2)
      exact ⟨r, μ', ν', t1, t2, ft.trans t3, bk.trans t4⟩
    have cl : L_X11_cheapest_42 (fu + 1) (nI s) sea (nI D) (nI N) (nI b) x6 x7 (nI q) μ = bd (D_X11_canLoad (nI s) (nI q) μ) (fun v4 u3 => if v4 = 0 then (B_X11_cheapest_75 (L_X11_cheapest_42 fu) (nI s) sea (nI D) (nI N) (nI b) x6 x7 (nI q) (-1 : Int32) u3) else (bd (D_X11_cost (nI s) (nI q) u3) (fun v8 u7 => B_X11_cheapest_75 (L_X11_cheapest_42 fu) (nI s) sea (nI D) (nI N) (nI b) x6 x7 (nI q) v8 u7))) := by
      show Bo_X11_cheapest_42 _ _ _ _ _ _ _ _ _ _ = _
      unfold Bo_X11_cheapest_42
      rw [gI_d, e1, if_neg (nI_ge (show q < pl by omega) (by omega))]
    have ml : L_X12_cheapest_44 (fu2 + 1) (nI s) sea (nI D) (nI N) (nI b) x6 x7 (nI q) ν = bd (D_X12_canLoad (nI s) (nI q) ν) (fun v4 u3 => if v4 = 0 then (L_X12_cheapest_44 fu2 (nI s) sea (nI D) (nI N) (nI b) x6 x7 (nI q + (1 : Int32)) u3) else (bd (D_X12_costOf (nI s) (nI q) (-1 : Int32) (0 : Int32) (0 : Int32) u3) (fun v8 u7 => if x6 = (-1 : Int32) then (B_X12_cheapest_91 (L_X12_cheapest_44 fu2) (nI s) sea (nI D) (nI N) (nI b) x6 x7 (nI q) v8 u7) else (if x7 ≤ v8 then (L_X12_cheapest_44 fu2 (nI s) sea (nI D) (nI N) (nI b) x6 x7 (nI q + (1 : Int32)) u7) else (B_X12_cheapest_91 (L_X12_cheapest_44 fu2) (nI s) sea (nI D) (nI N) (nI b) x6 x7 (nI q) v8 u7))))) := by
      show Bo_X12_cheapest_44 _ _ _ _ _ _ _ _ _ _ = _
      unfold Bo_X12_cheapest_44
      rw [gI_d, e2, if_neg (nI_ge (show q < pl by omega) (by omega))]
    rw [cl, ml]
    rcases can_e h.2.2.1 h.2.2.2.1 hU (nI s) (nI q) with ⟨q1, q2⟩ | ⟨s', q', r, hs', hq', hsp, hld, q1, q2⟩
    · obtain ⟨r, μ', ν', t1, t2, t3⟩ := next μ ν x6 x7 FT.refl BK.refl
      refine ⟨r, μ', ν', ?_, ?_, t3⟩
      · rw [q1, bd_s, if_pos rfl]
        unfold B_X11_cheapest_75
        rw [if_pos rfl, nI_1]
        exact t1
      · rw [q2, bd_s, if_pos rfl, nI_1]
        exact t2
    · rw [hs'] at next
      rw [hs', hq'] at q1 q2 ⊢
      rw [q1, bd_s, if_neg z10, q2, bd_s, if_neg z10, cc_e (i := i) hsp, bd_s, mc_e hsp, bd_s]
      obtain ⟨n, n1, n2⟩ := csN_n hsp r (Nat.le_refl _)
      have hr4 := (sr_e hsp).2.2.2.2.2.2.2
      have hne : ¬ csN ν s' q' (-1) 0 0 r = -1 := by rw [n2]; exact nI_nm1 (by omega)
      generalize csN ν s' q' (-1) 0 0 r = pr at *
      obtain ⟨μ1, l1, l2, l3, -⟩ := ln_e hU hsp hld
      have hS1 : SS μ1 ν := hS.go (l3.1 25 (by omega)) (fun _ _ _ => rfl)
      obtain ⟨T, z, μ2, ν2, t1, t2, t3, t4, t5, t6⟩ := so_e (N := N) (b := b) hsea hD hN hb ⟨rfl, rfl, rfl, rfl⟩ l2 hS1
      have ft : FT μ μ2 := (l3.ft (by decide) (by decide)).trans t4.t
      have hq1 : nI q' + 1 = nI (q + 1) := by rw [← hq', nI_1]
      -- the trial of this plan
      have tr : ∃ (r : Int32) (μ' ν' : gs_M), B_X11_cheapest_99 (L_X11_cheapest_42 fu) (nI s') sea (nI D) (nI N) (nI b) x6 x7 (nI q') pr μ = some (r, μ') ∧ B_X12_cheapest_91 (L_X12_cheapest_44 fu2) (nI s') sea (nI D) (nI N) (nI b) x6 x7 (nI q') pr ν = some (r, ν') ∧ FT μ μ' ∧ BK ν ν' := by
        unfold B_X11_cheapest_99 B_X12_cheapest_91
        rw [l1, bd0_s, t2, bd_s, t5, bd_s, pk_sub (by omega), show N - (N - T) = T by omega, hq1]
        by_cases zz : T ≤ b
        · rw [if_neg (nI_nlt (by omega) (by omega)), if_pos (nI_le zz (by omega))]
          exact next μ2 ν2 (nI q') pr ft t6
        · rw [if_pos (nI_lt (by omega) (by omega)), if_neg (nI_ge (by omega) (by omega))]
          exact next μ2 ν2 x6 x7 ft t6
      unfold B_X11_cheapest_75
      rw [if_neg hne]
      by_cases z6 : x6 = -1
      · rw [if_pos z6, if_pos z6]
        exact tr
      · rw [if_neg z6, if_neg z6]
        by_cases z7 : pr < x7
        · rw [if_pos z7, if_neg (by rw [ti_le]; rw [ti_lt] at z7; omega)]
          exact tr
        · rw [if_neg z7, if_pos (by rw [ti_le]; rw [ti_lt] at z7; omega), hq1]
          exact next μ ν x6 x7 FT.refl BK.refl
theorem k_cheapest {i : Nat} (hi : i ≤ 4096) (y0 y1 y2 y3 y4 : Int32) : CALLS i (D_X11_cheapest y0 y1 y2 y3 y4) (D_X12_cheapest y0 y1 y2 y3 y4) := by
  intro μ ν0 h0
  obtain ⟨ν, hν, h, he⟩ := th_e h0
  unfold D_X11_cheapest D_X12_cheapest
  simp only [lt1, ← hν, wi_e, ii_e, bd_s]
  have h' := h
  obtain ⟨-, -, ⟨sh, s6, s1, s0, s2, s3⟩, ⟨pl, p6, p1, p0, p2, p3⟩, -⟩ := h'
  rcases has_e (x := y0) s1 (by omega) with ⟨q1, q2⟩ | ⟨s, hs, rfl, q1⟩
  · exact fin_e (r := -1) h he (by rw [q1, bd_s, if_pos rfl]) (by rw [isS_e s2 q2, bd_s, if_pos rfl])
  rw [q1, bd_s, if_neg z10, isS_1 s2 hs (by omega), bd_s, if_neg z10]
  rcases cvo_e y1 y2 y3 μ ν with ⟨q3, q4⟩ | ⟨D, N, d1, d2, n1, n2, rfl, rfl, hsea, q3, q4⟩
  · exact fin_e (r := -1) h he (by rw [q3, bd_s, if_pos rfl]) (by rw [q4, bd_s, if_pos rfl])
  rw [q3, bd_s, if_neg z10, q4, bd_s, if_neg z10]
  rcases inN_k y4 (lo := 0) (hi := 5) (L := 0) (H := 5) (by decide) (by decide) with z | ⟨z, a0, b0⟩
  · exact fin_e (r := -1) h he (by rw [z, if_pos rfl]) (by rw [z, if_pos rfl])
  obtain ⟨b, b1, rfl⟩ := ti_nat (x := y4) (m := 5) (by omega) (by omega)
  rw [z, if_neg z10, if_neg z10]
  obtain ⟨r, μ', ν', t1, t2, t3, t4⟩ := ch_loop (s := s) (b := b) hsea (show D < 100 by omega) n1 b1 pl 0 4096 4096 pl μ ν (-1) 0 (by omega) (by omega) (by omega) p6 h p1 p2
  exact tfin_e (r := r) h he t3 t4 t1 t2
/-! agree -/
theorem agl_loop {st n N : Nat} {a by' x1 x4 x5 : Int32} {q45 : Int32 → Int32 → Int32 → Int32 → Int32 → gs_M → Option (Int32 × gs_M)} (ha : 0 ≤ a.toInt ∧ a.toInt ≤ 40) (hN : N ≤ 20) : ∀ (m k fu fu2 B : Nat) (μ ν : gs_M) (al : Int32), k + m = N → m < fu → m < fu2 → B + 40 * m < 1000000 → VR μ 56 (ν.1 89) (ν.1 83) (ν.2 78 33) st n B → SS μ ν → μ.1 0 15 = nI N → ν.1 78 43 = nI N → (∀ j, j < N → μ.1 72 j = ν.1 94 j) → (al = 0 ∨ al = 1) → ∃ (z : Int32) (μ' ν' : gs_M), (z = 0 ∨ z = 1) ∧ (al = 0 → z = 0) ∧ (al = 1 → L_X11_agreesWithLogs_13 fu a by' (nI k) μ = some (z, μ')) ∧ F56 μ μ' ∧ L_X12_agree_84 q45 fu2 x1 a by' x4 x5 al (nI k) ν = q45 x1 a by' (if z = 0 then x4 else x4 ||| ((1 : Int32) <<< (x5 &&& 31))) (x5 + 1) ν' ∧ FR ν ν' := by
  intro m
  induction m with
  | zero =>
    intro k fu fu2 B μ ν al hk hf hf2 hB hV hS c1 c2 c3 hal
    obtain ⟨fu, rfl⟩ : ∃ m, fu = m + 1 := ⟨fu - 1, by omega⟩
    obtain ⟨fu2, rfl⟩ : ∃ m, fu2 = m + 1 := ⟨fu2 - 1, by omega⟩
    refine ⟨al, μ, ν, hal, id, fun e => ?_, F56.refl, ?_, FR.refl⟩
    · show Bo_X11_agreesWithLogs_13 _ _ _ _ _ = _
      unfold Bo_X11_agreesWithLogs_13
      rw [gI_d, c1, if_pos (nI_le (by omega) (by omega)), e]
    · show Bo_X12_agree_84 _ _ _ _ _ _ _ _ _ _ = _
      unfold Bo_X12_agree_84 B_X12_agree_159
      rw [gI_d, c2, if_pos (nI_le (by omega) (by omega)), lt1, lt1, Int32.or_zero]
      rcases hal with e | e
      · rw [if_pos e, if_pos e]
      · rw [if_neg (by rw [e]; decide), if_neg (by rw [e]; decide)]
  | succ m ih =>
    intro k fu fu2 B μ ν al hk hf hf2 hB hV hS c1 c2 c3 hal
    obtain ⟨fu, rfl⟩ : ∃ m, fu = m + 1 := ⟨fu - 1, by omega⟩
    obtain ⟨fu2, rfl⟩ : ∃ m, fu2 = m + 1 := ⟨fu2 - 1, by omega⟩
    have hlo := hV.2.2.2.1
    -- the roll, if she isn't lost
    obtain ⟨μ1, ν1, r1, r2, r3, r4, r5⟩ : ∃ μ1 ν1, L_X11_agreesWithLogs_13 (fu + 1) a by' (nI k) μ = B_X11_agreesWithLogs_41 (L_X11_agreesWithLogs_13 fu) a by' (nI k) μ1 ∧ L_X12_agree_84 q45 (fu2 + 1) x1 a by' x4 x5 al (nI k) ν = B_X12_agree_107 q45 (L_X12_agree_84 q45 fu2) x1 a by' x4 x5 al (nI k) ν1 ∧ VR μ1 56 (ν1.1 89) (ν1.1 83) (ν1.2 78 33) st n (B + 40) ∧ FW 56 μ μ1 ∧ FR ν ν1 := by
      by_cases z : ν.1 89 79 = 0
      · obtain ⟨μ1, ν1, t1, t2, t3, t4, t5, t6, -⟩ := roll_e hV hS (by decide) ha (by omega)
        refine ⟨μ1, ν1, ?_, ?_, t4, t5, t6⟩
        · show Bo_X11_agreesWithLogs_13 _ _ _ _ _ = _
          unfold Bo_X11_agreesWithLogs_13
          rw [gI_d, c1, if_neg (nI_ge (show k < N by omega) (by omega)), gI_d, hlo, if_pos z, t1, bd_s]
        · show Bo_X12_agree_84 _ _ _ _ _ _ _ _ _ _ = _
          unfold Bo_X12_agree_84
          rw [gI_d, c2, if_neg (nI_ge (show k < N by omega) (by omega)), mnw_79, bd_s, if_pos z, t2, bd0_s]
      · refine ⟨μ, ν, ?_, ?_, hV.mono (by omega) (Nat.le_refl _), FW.refl, FR.refl⟩
        · show Bo_X11_agreesWithLogs_13 _ _ _ _ _ = _
          unfold Bo_X11_agreesWithLogs_13
          rw [gI_d, c1, if_neg (nI_ge (show k < N by omega) (by omega)), gI_d, hlo, if_neg z]
        · show Bo_X12_agree_84 _ _ _ _ _ _ _ _ _ _ = _
          unfold Bo_X12_agree_84
          rw [gI_d, c2, if_neg (nI_ge (show k < N by omega) (by omega)), mnw_79, bd_s, if_neg z]
    have hS1 := hS.w (by decide) r4 r5
    have f1 := r4.f56
    obtain ⟨l, l1, l2, -⟩ := lean_e r3.1 hS1
    have k1 : ν1.1 94 = ν.1 94 := r5.1 94 (by decide) (by decide)
    have k2 : μ1.1 72 = μ.1 72 := (f1 72 (by omega)).1
    have next := fun al' hal' => ih (k + 1) fu fu2 (B + 40) μ1 ν1 al' (by omega) (by omega) (by omega) (by omega) r3 hS1 (by rw [(f1 0 (by omega)).1]; exact c1) (by rw [r5.2.1 43 (by decide) (by decide)]; exact c2) (fun j hj => by rw [k2, k1]; exact c3 j hj) hal'
    obtain ⟨dv, hdv⟩ : ∃ dv, dv = (if 0 ≤ l - ν.1 94 k then l - ν.1 94 k else 0 - (l - ν.1 94 k)) := ⟨_, rfl⟩
    rcases hal with e | e
    · obtain ⟨z, μ', ν', t1, t2, t3, t4, t5, t6⟩ := next 0 (Or.inl rfl)
      refine ⟨z, μ', ν', t1, fun _ => t2 rfl, fun q => absurd (e.symm.trans q) (by decide), f1.trans t4, ?_, r5.trans t6⟩
      rw [r2]
      unfold B_X12_agree_107 B_X12_agree_135
      rw [if_pos e, nI_1]
      exact t5
    · have cl : B_X11_agreesWithLogs_41 (L_X11_agreesWithLogs_13 fu) a by' (nI k) μ1 = if dv ≤ by' then L_X11_agreesWithLogs_13 fu a by' (nI (k + 1)) μ1 else some (0, μ1) := by
        unfold B_X11_agreesWithLogs_41
        rw [l1, bd_s, inb_n (show k < 20 by omega) (by decide), ck_t, nI_clamp (by omega), lt1, gI_d, k2, c3 k (by omega), ← hdv, nI_1]
      have ml : B_X12_agree_107 q45 (L_X12_agree_84 q45 fu2) x1 a by' x4 x5 al (nI k) ν1 = if by' < dv then L_X12_agree_84 q45 fu2 x1 a by' x4 x5 0 (nI (k + 1)) ν1 else L_X12_agree_84 q45 fu2 x1 a by' x4 x5 1 (nI (k + 1)) ν1 := by
        unfold B_X12_agree_107 B_X12_agree_135
        rw [if_neg (by rw [e]; decide), l2, bd_s, inb_n (show k < 20 by omega) (by decide), ck_t, nI_clamp (by omega), lt1, gI_d, k1, ← hdv, nI_1]
      by_cases zz : dv ≤ by'
      · obtain ⟨z, μ', ν', t1, t2, t3, t4, t5, t6⟩ := next 1 (Or.inr rfl)
        refine ⟨z, μ', ν', t1, fun q => absurd (q.symm.trans e) (by decide), fun _ => ?_, f1.trans t4, ?_, r5.trans t6⟩
        · rw [r1, cl, if_pos zz]; exact t3 rfl
        · rw [r2, ml, if_neg (by rw [ti_lt]; rw [ti_le] at zz; omega)]; exact t5
      · obtain ⟨z, μ', ν', t1, t2, t3, t4, t5, t6⟩ := next 0 (Or.inl rfl)
        obtain rfl := t2 rfl
        refine ⟨0, μ1, ν', Or.inl rfl, fun _ => rfl, fun _ => ?_, f1, ?_, r5.trans t6⟩
        · rw [r1, cl, if_neg zz]
        · rw [r2, ml, if_pos (by rw [ti_lt]; rw [ti_le] at zz; omega)]; exact t5
theorem ag_loop {ν0 : gs_M} {st s N : Nat} {a by' : Int32} (ha : 0 ≤ a.toInt ∧ a.toInt ≤ 40) (hN : N ≤ 20) : ∀ (m q fu fu2 pl : Nat) (μ ν : gs_M) (x : Int32), q + m = pl → m < fu → m < fu2 → pl ≤ 6 → (∃ sh, cH μ ν sh) → (∃ pl, cP μ ν pl) → cU μ ν st → SS μ ν → TK ν0 ν → μ.1 13 3 = nI pl → ν.1 78 26 = nI pl → μ.1 0 15 = nI N → ν.1 78 43 = nI N → (∀ j, j < N → μ.1 72 j = ν.1 94 j) → ∃ (r : Int32) (μ' ν' : gs_M), L_X11_agree_39 fu (nI s) a by' x (nI q) μ = some (r, μ') ∧ L_X12_agree_45 fu2 (nI s) a by' x (nI q) ν = some (r, ν') ∧ F56 μ μ' ∧ BK ν0 ν' := by
  intro m
  induction m with
  | zero =>
    intro q fu fu2 pl μ ν x hq hf hf2 hpl hH hP hU hS hT e1 e2 c1 c2 c3
    obtain ⟨fu, rfl⟩ : ∃ m, fu = m + 1 := ⟨fu - 1, by omega⟩
    obtain ⟨fu2, rfl⟩ : ∃ m, fu2 = m + 1 := ⟨fu2 - 1, by omega⟩
    obtain ⟨ν3, p1, p2⟩ := pb_e hT
    refine ⟨x, μ, ν3, ?_, ?_, F56.refl, p2⟩
    · show Bo_X11_agree_39 _ _ _ _ _ _ _ = _
      unfold Bo_X11_agree_39
      rw [gI_d, e1, if_pos (nI_le (by omega) (by omega))]
    · show Bo_X12_agree_45 _ _ _ _ _ _ _ = _
      unfold Bo_X12_agree_45
      rw [gI_d, e2, if_pos (nI_le (by omega) (by omega)), p1, bd0_s]
  | succ m ih =>
    intro q fu fu2 pl μ ν x hq hf hf2 hpl hH hP hU hS hT e1 e2 c1 c2 c3
    obtain ⟨fu, rfl⟩ : ∃ m, fu = m + 1 := ⟨fu - 1, by omega⟩
    obtain ⟨fu2, rfl⟩ : ∃ m, fu2 = m + 1 := ⟨fu2 - 1, by omega⟩
    have next : ∀ (μ1 ν1 : gs_M) (y : Int32), F56 μ μ1 → FR ν ν1 → ∃ (r : Int32) (μ' ν' : gs_M), L_X11_agree_39 fu (nI s) a by' y (nI (q + 1)) μ1 = some (r, μ') ∧ L_X12_agree_45 fu2 (nI s) a by' y (nI (q + 1)) ν1 = some (r, ν') ∧ F56 μ μ' ∧ BK ν0 ν' := by
      intro μ1 ν1 y ft fr
      have fm : ∀ b, ¬ (b = 78 ∨ b = 89) → ν1.1 b = ν.1 b := fun b hb => fr.1 b (by omega) (by omega)
      have f78 : ∀ j, ¬ (j = 37 ∨ j = 38) → ν1.1 78 j = ν.1 78 j := fun j hj => fr.2.1 j (by omega) (by omega)
      have fc : ∀ b, (b < 56 ∨ 66 ≤ b) → μ1.1 b = μ.1 b := fun b hb => (ft b hb).1
      obtain ⟨sh, h5⟩ := hH
      obtain ⟨pl', h6⟩ := hP
      obtain ⟨r, μ', ν', t1, t2, t3, t4⟩ := ih (q + 1) fu fu2 pl μ1 ν1 y (by omega) (by omega) (by omega) hpl ⟨sh, h5.go (fc 10 (by decide)) (fc 11 (by decide)) (fc 12 (by decide)) (f78 25 (by decide)) (fm 84 (by decide)) (fm 86 (by decide))⟩ ⟨pl', h6.go (fc 13 (by decide)) (fc 14 (by decide)) (fc 15 (by decide)) (f78 26 (by decide)) (fm 85 (by decide)) (fm 87 (by decide))⟩ (hU.go (fc 7 (by decide)) (fc 8 (by decide)) (fc 9 (by decide)) (f78 24 (by decide)) (fm 83 (by decide))) (hS.go (fc 25 (by decide)) (fun j _ _ => f78 j (by omega))) (hT.r fr) (by rw [fc 13 (by decide)]; exact e1) (by rw [f78 26 (by decide)]; exact e2) (by rw [fc 0 (by decide)]; exact c1) (by rw [f78 43 (by decide)]; exact c2) (fun j hj => by rw [fc 72 (by decide), fm 94 (by decide)]; exact c3 j hj)
      exact ⟨r, μ', ν', t1, t2, ft.trans t3, t4⟩
    have cl : L_X11_agree_39 (fu + 1) (nI s) a by' x (nI q) μ = bd (D_X11_canLoad (nI s) (nI q) μ) (fun v4 u3 => if v4 = 0 then (L_X11_agree_39 fu (nI s) a by' x (nI (q + 1)) u3) else (bd (D_X11_agreesWithLogs (nI s) (nI q) a by' u3) (fun v8 u7 => if v8 = 0 then (L_X11_agree_39 fu (nI s) a by' x (nI (q + 1)) u7) else (L_X11_agree_39 fu (nI s) a by' (x ||| ((1 : Int32) <<< (nI q &&& 31))) (nI (q + 1)) u7)))) := by
      show Bo_X11_agree_39 _ _ _ _ _ _ _ = _
      unfold Bo_X11_agree_39
      rw [gI_d, e1, if_neg (nI_ge (show q < pl by omega) (by omega)), nI_1]
      rfl
    have ml : L_X12_agree_45 (fu2 + 1) (nI s) a by' x (nI q) ν = bd (D_X12_canLoad (nI s) (nI q) ν) (fun v6 u5 => if v6 = 0 then (L_X12_agree_45 fu2 (nI s) a by' x (nI (q + 1)) u5) else (bd0 (D_X12_loads (nI s) (nI q) (-1 : Int32) (0 : Int32) (0 : Int32) (0 : Int64) u5) (fun u9 => L_X12_agree_84 (L_X12_agree_45 fu2) 4096 (nI s) a by' x (nI q) (1 : Int32) (0 : Int32) u9))) := by
      show Bo_X12_agree_45 _ _ _ _ _ _ _ = _
      unfold Bo_X12_agree_45
      rw [gI_d, e2, if_neg (nI_ge (show q < pl by omega) (by omega)), nI_1]
    rw [cl, ml]
    rcases can_e hH hP hU (nI s) (nI q) with ⟨q1, q2⟩ | ⟨s', q', r, hs', hq', hsp, hld, q1, q2⟩
    · obtain ⟨r, μ', ν', t1, t2, t3⟩ := next μ ν x F56.refl FR.refl
      exact ⟨r, μ', ν', by rw [q1, bd_s, if_pos rfl]; exact t1, by rw [q2, bd_s, if_pos rfl]; exact t2, t3⟩
    · obtain ⟨a1, a2, a3, a4, a5, a6, a7, a8⟩ := sr_e hsp
      have hD : ∀ i, i < r → HD ν st s' q' i := fun i hi => hd_e hU.1 hsp (hld i hi) hi
      obtain ⟨μ1, t1, t2, t3, t4, t5⟩ := lay_e (v := 56) (by decide) hU hsp hD
      obtain ⟨ν1, u1, u2, u3, u4, u5⟩ := loads_e (μ := μ1) (ν := ν) (νt := ν) (z := 0) (v := 56) (by omega) (by omega) a7 a8 a3 hD (fun i hi => (t3 i hi).1) t2 ⟨rfl, rfl, rfl, rfl⟩
      have hV1 : VR μ1 56 (ν1.1 89) (ν1.1 83) (ν1.2 78 33) st r 0 := by rw [u3, ← t5]; exact u5
      have f1 := t4.f56
      have hS1 : SS μ1 ν1 := hS.go (f1 25 (by omega)).1 (fun j _ _ => u2.2.1 j (by omega) (by omega))
      obtain ⟨z, μ2, ν2, w1, w2, w3, w4, w5, w6⟩ := agl_loop (by' := by') (x1 := nI s) (x4 := x) (x5 := nI q) (q45 := L_X12_agree_45 fu2) ha hN N 0 4096 4096 0 μ1 ν1 1 (by omega) (by omega) (by omega) (by omega) hV1 hS1 (by rw [(f1 0 (by omega)).1]; exact c1) (by rw [u2.2.1 43 (by decide) (by decide)]; exact c2) (fun j hj => by rw [(f1 72 (by omega)).1, u2.1 94 (by decide) (by decide)]; exact c3 j hj) (Or.inr rfl)
      have hag : D_X11_agreesWithLogs (nI s) (nI q) a by' μ = some (z, μ2) := by
        unfold D_X11_agreesWithLogs
        rw [hs', hq', t1, bd0_s]
        exact w3 rfl
      have hmo : bd0 (D_X12_loads (nI s) (nI q) (-1 : Int32) (0 : Int32) (0 : Int32) (0 : Int64) ν) (fun u9 => L_X12_agree_84 (L_X12_agree_45 fu2) 4096 (nI s) a by' x (nI q) (1 : Int32) (0 : Int32) u9) = L_X12_agree_45 fu2 (nI s) a by' (if z = 0 then x else x ||| ((1 : Int32) <<< (nI q &&& 31))) (nI (q + 1)) ν2 := by
        rw [hs', hq', u1, bd0_s, ← hs', ← hq', ← nI_1]
        exact w5
      rw [q1, bd_s, if_neg z10, q2, bd_s, if_neg z10, hag, bd_s, hmo]
      rcases w1 with e | e
      · rw [if_pos e, if_pos e]
        exact next μ2 ν2 x (f1.trans w4) (u2.trans w6)
      · rw [if_neg (by rw [e]; decide), if_neg (by rw [e]; decide)]
        exact next μ2 ν2 _ (f1.trans w4) (u2.trans w6)
theorem k_agree {i : Nat} (hi : i ≤ 4096) (y0 y1 y2 : Int32) : CALLS i (D_X11_agree y0 y1 y2) (D_X12_agree y0 y1 y2) := by
  intro μ ν0 h0
  obtain ⟨ν, hν, h, he⟩ := th_e h0
  obtain ⟨st, hU, hL, hI, hQ, hgo⟩ := rt_live h
  have hS := hQ.1
  unfold D_X11_agree D_X12_agree
  simp only [lt1, ← hν, wi_e, ii_e, bd_s]
  have h' := h
  obtain ⟨-, -, ⟨sh, hH⟩, ⟨pl, hP⟩, -, -, -, ⟨N, n20, c1, c2, c3⟩, -⟩ := h'
  have hH' := hH
  have hP' := hP
  obtain ⟨s6, s1, s0, s2, s3⟩ := hH'
  obtain ⟨p6, p1, p0, p2, p3⟩ := hP'
  rcases has_e (x := y0) s1 (by omega) with ⟨q1, q2⟩ | ⟨s, hs, rfl, q1⟩
  · exact fin_e (r := -1) h he (by rw [q1, bd_s, if_pos rfl]) (by rw [isS_e s2 q2, bd_s, if_pos rfl])
  rw [q1, bd_s, if_neg z10, isS_1 s2 hs (by omega), bd_s, if_neg z10]
  rcases inN_k y1 (lo := 0) (hi := 40) (L := 0) (H := 40) (by decide) (by decide) with z | ⟨z, a0, b0⟩
  · exact fin_e (r := -1) h he (by rw [z, if_pos rfl]) (by rw [z, if_pos rfl])
  rcases inN_k y2 (lo := 0) (hi := 60) (L := 0) (H := 60) (by decide) (by decide) with z1 | ⟨z1, a1, b1⟩
  · exact fin_e (r := -1) h he (by rw [z, if_neg z10, z1, if_pos rfl]) (by rw [z, if_neg z10, z1, if_pos rfl])
  rw [z, if_neg z10, if_neg z10, z1, if_neg z10, if_neg z10]
  obtain ⟨ν1, k1, k2⟩ := kp_e (ν := ν)
  have f78 : ∀ j, ¬ (j = 37 ∨ j = 38) → ν1.1 78 j = ν.1 78 j := fun j hj => k2.2.1 j (by omega) (by omega)
  have fm : ∀ b, ¬ (b = 78 ∨ b = 89 ∨ b = 90) → ν1.1 b = ν.1 b := fun b hb => k2.1 b (by omega) (by omega) (by omega)
  obtain ⟨r, μ', ν', t1, t2, t3, t4⟩ := ag_loop (s := s) (by' := y2) ⟨a0, b0⟩ n20 pl 0 4096 4096 pl μ ν1 0 (by omega) (by omega) (by omega) p6 ⟨sh, hH.go rfl rfl rfl (f78 25 (by decide)) (fm 84 (by decide)) (fm 86 (by decide))⟩ ⟨pl, hP.go rfl rfl rfl (f78 26 (by decide)) (fm 85 (by decide)) (fm 87 (by decide))⟩ (hU.go rfl rfl rfl (f78 24 (by decide)) (fm 83 (by decide))) (hS.go rfl (fun j _ _ => f78 j (by omega))) k2 p1 (by rw [f78 26 (by decide)]; exact p2) c1 (by rw [f78 43 (by decide)]; exact c2) (fun j hj => by rw [fm 94 (by decide)]; exact (c3 j hj).1)
  exact tfin_e (r := r) h he t3.t t4 t1 (by rw [k1, bd0_s]; exact t2)
