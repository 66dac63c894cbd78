/-! hands at the grain; images -/
theorem VR.of {μ ν μ' ν' : gs_M} {v st n B : Nat} (h : VR μ v (ν.1 89) (ν.1 83) (ν.2 78 33) st n B) (hC : VC μ' v (ν'.1 89) (ν'.1 83) st n B) (fh : FH v μ μ') (fs : FS ν ν') : VR μ' v (ν'.1 89) (ν'.1 83) (ν'.2 78 33) st n B := by
  obtain ⟨-, ht, hd, hlo, hlo2, hdb, hdr⟩ := h
  refine ⟨hC, ?_, ?_, ?_, ?_, ?_, ?_⟩
  · rw [fh.1 v (by omega), fs.2.2.1 _ (by omega)]; exact ht
  · rw [fh.1 v (by omega), fs.2.2.1 _ (by omega)]; exact hd
  · rw [fh.1 v (by omega), fs.2.2.1 _ (by omega)]; exact hlo
  · rw [fs.2.2.1 _ (by omega)]; exact hlo2
  · rw [fs.2.2.1 _ (by omega)]; exact hdb
  · rw [fh.2.1, fs.2.2.2]; exact hdr
theorem VC.un {μ ν : gs_M} {v st n B k j : Nat} {x : Int32} (h : VC μ v (ν.1 89) (ν.1 83) st n B) (hk : k < n) (hj : j < 12) (x0 : 0 ≤ x.toInt) (x1 : x.toInt ≤ 60) : VC (sI μ (v + 2 + 2 * k + 1) j x) v ((sI ν 89 (28 + 12 * k + j) x).1 89) ((sI ν 89 (28 + 12 * k + j) x).1 83) st n B ∧ FH v μ (sI μ (v + 2 + 2 * k + 1) j x) ∧ FS ν (sI ν 89 (28 + 12 * k + j) x) := by
  obtain ⟨n1, n4, hs, h76, hl, hH⟩ := h
  refine ⟨⟨n1, n4, ?_, ?_, ?_, fun i hi => ?_⟩, ⟨fun b hb => sI_n _ _ _ (by omega), rfl, fun i hi => by rw [sI_n _ _ _ (by omega)]⟩, ⟨fun b _ h2 => sI_n _ _ _ h2, fun j _ _ => by rw [sI_n _ _ _ (by decide)], fun i hi => by rw [sI_s, pk_un (by omega)], rfl⟩⟩
  · rw [sI_n _ _ _ (by omega)]; exact hs
  · rw [sI_s, pk_un (by omega)]; exact h76
  · rw [sI_s, pk_un (by omega)]; exact hl
  · obtain ⟨⟨c, o, ho, hF, hU⟩, hb⟩ := hH i hi
    refine ⟨⟨c, o, ho, ?_, fun e he => ?_⟩, ?_⟩
    · rw [sI_n _ _ _ (show (83 : Nat) ≠ 89 by decide)]
      exact hF.go (by omega) (fun j _ _ => by rw [sI_n _ _ _ (by omega)]) (fun j hj => by rw [sI_s, pk_un (by omega)])
    · by_cases q : i = k
      · subst q
        rw [sI_s, sI_s]
        by_cases q2 : e = j
        · subst q2
          rw [pk_us, pk_us]
          exact ⟨rfl, x0, x1⟩
        · rw [pk_un q2, pk_un (by omega)]
          exact hU e he
      · rw [sI_n _ _ _ (by omega), sI_s, pk_un (by omega)]
        exact hU e he
    · rw [sI_s, pk_un (by omega)]; exact hb
theorem ev_loop {μ ν : gs_M} {v st n B k c o : Nat} {t x3 : Int32} {q27 : Int32 → Int32 → Int32 → gs_M → Option (Int32 × gs_M)} (hV : VC μ v (ν.1 89) (ν.1 83) st n B) (hk : k < n) (hC : HC μ ν (v + 2 + 2 * k) k c o) :
    ∀ (m i p q fu fu2 : Nat), i + m = c → p < c → q < c → m < fu → m < fu2 → (L_X1_evenOut_6 fu (v + 2 + 2 * k) (nI p) (nI q) (nI i) μ = some (0, μ) ∧ L_X12_trim_41 q27 fu2 (nI k) t x3 (nI p) (nI q) (nI i) ν = some (x3, ν)) ∨ ∃ μ' ν', L_X1_evenOut_6 fu (v + 2 + 2 * k) (nI p) (nI q) (nI i) μ = some (1, μ') ∧ L_X12_trim_41 q27 fu2 (nI k) t x3 (nI p) (nI q) (nI i) ν = q27 (nI k) t (x3 + 1) ν' ∧ VC μ' v (ν'.1 89) (ν'.1 83) st n B ∧ FH v μ μ' ∧ FS ν ν' := by
  have n4 := hV.2.1
  have hk4 : k < 4 := by omega
  have hC' := hC
  obtain ⟨⟨hc2, hc12, ho6, f1, w0, -⟩, hu⟩ := hC'
  intro m
  induction m with
  | zero =>
    intro i p q fu fu2 hi hp hq hf hf2
    obtain ⟨fu, rfl⟩ : ∃ m, fu = m + 1 := ⟨fu - 1, by omega⟩
    obtain ⟨fu2, rfl⟩ : ∃ m, fu2 = m + 1 := ⟨fu2 - 1, by omega⟩
    obtain rfl : i = c := by omega
    obtain ⟨up, up1, up2⟩ := hu p (by omega)
    obtain ⟨uq, uq1, uq2⟩ := hu q (by omega)
    have hsub : (μ.1 (v + 2 + 2 * k + 1) p - μ.1 (v + 2 + 2 * k + 1) q).toInt = (μ.1 (v + 2 + 2 * k + 1) p).toInt - (μ.1 (v + 2 + 2 * k + 1) q).toInt := ti_sub (by omega) (by omega)
    by_cases hz : (2 : Int32) ≤ μ.1 (v + 2 + 2 * k + 1) p - μ.1 (v + 2 + 2 * k + 1) q
    · have hz' := hz
      rw [ti_le, hsub, show (2 : Int32).toInt = 2 by decide] at hz'
      have hpq : q ≠ p := fun e => by rw [e] at hz'; omega
      have c1 : (1 : Int32).toInt = 1 := by decide
      have e1 : (μ.1 (v + 2 + 2 * k + 1) p - 1).toInt = (μ.1 (v + 2 + 2 * k + 1) p).toInt - 1 := by rw [ti_sub (by rw [c1]; omega) (by rw [c1]; omega), c1]
      have e2 : (μ.1 (v + 2 + 2 * k + 1) q + 1).toInt = (μ.1 (v + 2 + 2 * k + 1) q).toInt + 1 := by rw [ti_add (by rw [c1]; omega) (by rw [c1]; omega), c1]
      obtain ⟨a1, a2, a3⟩ := hV.un (x := μ.1 (v + 2 + 2 * k + 1) p - 1) hk (show p < 12 by omega) (by omega) (by omega)
      obtain ⟨b1, b2, b3⟩ := a1.un (x := μ.1 (v + 2 + 2 * k + 1) q + 1) hk (show q < 12 by omega) (by omega) (by omega)
      refine Or.inr ⟨_, _, ?_, ?_, b1, a2.trans b2, a3.trans b3⟩
      · show Bo_X1_evenOut_6 _ _ _ _ _ _ = _
        unfold Bo_X1_evenOut_6
        rw [gI_d, f1, if_pos (nI_le (Nat.le_refl _) (by omega)), inb_n (show p < 12 by omega) (by decide), inb_n (show q < 12 by omega) (by decide)]
        simp only [ck_t, nI_clamp (show p < 2 ^ 31 by omega), nI_clamp (show q < 2 ^ 31 by omega), gI_d, if_pos hz, lt1, sI_s, pk_un hpq]
      · show Bo_X12_trim_41 _ _ _ _ _ _ _ _ _ = _
        unfold Bo_X12_trim_41
        rw [mof_0 hk4, bd_s, w0, if_pos (nI_le (Nat.le_refl _) (by omega)), mun_e hk4 (by omega), bd_s, mun_e hk4 (by omega), bd_s, ← up, ← uq, if_pos hz, mpl_e, bd_s, inb_n (show 28 + 12 * k + p < 81 by omega) (by decide), ck_t, ck_t, nI_clamp (by omega), lt1, mpl_e, bd_s, inb_n (show 28 + 12 * k + q < 81 by omega) (by decide), ck_t, ck_t, nI_clamp (by omega), lt1]
        rw [gI_d, gI_d, sI_s, pk_un (show 28 + 12 * k + q ≠ 28 + 12 * k + p by omega), ← up, ← uq]
    · refine Or.inl ⟨?_, ?_⟩
      · show Bo_X1_evenOut_6 _ _ _ _ _ _ = _
        unfold Bo_X1_evenOut_6
        rw [gI_d, f1, if_pos (nI_le (Nat.le_refl _) (by omega)), inb_n (show p < 12 by omega) (by decide), inb_n (show q < 12 by omega) (by decide)]
        simp only [ck_t, nI_clamp (show p < 2 ^ 31 by omega), nI_clamp (show q < 2 ^ 31 by omega), gI_d, if_neg hz]
      · show Bo_X12_trim_41 _ _ _ _ _ _ _ _ _ = _
        unfold Bo_X12_trim_41
        rw [mof_0 hk4, bd_s, w0, if_pos (nI_le (Nat.le_refl _) (by omega)), mun_e hk4 (by omega), bd_s, mun_e hk4 (by omega), bd_s, ← up, ← uq, if_neg hz]
  | succ m ih =>
    intro i p q fu fu2 hi hp hq hf hf2
    obtain ⟨fu, rfl⟩ : ∃ m, fu = m + 1 := ⟨fu - 1, by omega⟩
    obtain ⟨fu2, rfl⟩ : ∃ m, fu2 = m + 1 := ⟨fu2 - 1, by omega⟩
    obtain ⟨ui, -⟩ := hu i (by omega)
    obtain ⟨up, -⟩ := hu p (by omega)
    obtain ⟨uq, -⟩ := hu q (by omega)
    obtain ⟨p', hp', e1⟩ : ∃ p', p' < c ∧ nI p' = if μ.1 (v + 2 + 2 * k + 1) i ≤ μ.1 (v + 2 + 2 * k + 1) p then nI p else nI i := by
      by_cases z : μ.1 (v + 2 + 2 * k + 1) i ≤ μ.1 (v + 2 + 2 * k + 1) p
      · exact ⟨p, hp, by rw [if_pos z]⟩
      · exact ⟨i, by omega, by rw [if_neg z]⟩
    obtain ⟨q', hq', e2⟩ : ∃ q', q' < c ∧ nI q' = if μ.1 (v + 2 + 2 * k + 1) q ≤ μ.1 (v + 2 + 2 * k + 1) i then nI q else nI i := by
      by_cases z : μ.1 (v + 2 + 2 * k + 1) q ≤ μ.1 (v + 2 + 2 * k + 1) i
      · exact ⟨q, hq, by rw [if_pos z]⟩
      · exact ⟨i, by omega, by rw [if_neg z]⟩
    have g1 : L_X1_evenOut_6 (fu + 1) (v + 2 + 2 * k) (nI p) (nI q) (nI i) μ = L_X1_evenOut_6 fu (v + 2 + 2 * k) (nI p') (nI q') (nI (i + 1)) μ := by
      show Bo_X1_evenOut_6 _ _ _ _ _ _ = _
      unfold Bo_X1_evenOut_6 B_X1_evenOut_34
      rw [gI_d, f1, if_neg (nI_ge (show i < c by omega) (by omega)), inb_n (show p < 12 by omega) (by decide), inb_n (show q < 12 by omega) (by decide), inb_n (show i < 12 by omega) (by decide)]
      simp only [ck_t, nI_clamp (show p < 2 ^ 31 by omega), nI_clamp (show q < 2 ^ 31 by omega), nI_clamp (show i < 2 ^ 31 by omega), gI_d, nI_1]
      rw [e1, e2]
      by_cases z : μ.1 (v + 2 + 2 * k + 1) i ≤ μ.1 (v + 2 + 2 * k + 1) p
      · rw [if_pos z, if_pos z]
        by_cases z2 : μ.1 (v + 2 + 2 * k + 1) q ≤ μ.1 (v + 2 + 2 * k + 1) i
        · rw [if_pos z2, if_pos z2]
        · rw [if_neg z2, if_neg z2]
      · rw [if_neg z, if_neg z]
        by_cases z2 : μ.1 (v + 2 + 2 * k + 1) q ≤ μ.1 (v + 2 + 2 * k + 1) i
        · rw [if_pos z2, if_pos z2]
        · rw [if_neg z2, if_neg z2]
    have g2 : L_X12_trim_41 q27 (fu2 + 1) (nI k) t x3 (nI p) (nI q) (nI i) ν = L_X12_trim_41 q27 fu2 (nI k) t x3 (nI p') (nI q') (nI (i + 1)) ν := by
      show Bo_X12_trim_41 _ _ _ _ _ _ _ _ _ = _
      unfold Bo_X12_trim_41 B_X12_trim_73
      rw [mof_0 hk4, bd_s, w0, if_neg (nI_ge (show i < c by omega) (by omega)), mun_e hk4 (by omega), bd_s, mun_e hk4 (by omega), bd_s]
      simp only [mun_e hk4 (show i < 12 by omega), mun_e hk4 (show q < 12 by omega), bd_s]
      rw [← ui, ← up, ← uq, nI_1, e1, e2]
      by_cases z : μ.1 (v + 2 + 2 * k + 1) i ≤ μ.1 (v + 2 + 2 * k + 1) p
      · rw [if_pos z, if_pos z]
        by_cases z2 : μ.1 (v + 2 + 2 * k + 1) q ≤ μ.1 (v + 2 + 2 * k + 1) i
        · rw [if_pos z2, if_pos z2]
        · rw [if_neg z2, if_neg z2]
      · rw [if_neg z, if_neg z]
        by_cases z2 : μ.1 (v + 2 + 2 * k + 1) q ≤ μ.1 (v + 2 + 2 * k + 1) i
        · rw [if_pos z2, if_pos z2]
        · rw [if_neg z2, if_neg z2]
    rw [g1, g2]
    exact ih (i + 1) p' q' fu fu2 (by omega) hp' hq' (by omega) (by omega)
theorem trim_loop {st n k T : Nat} (hT : T ≤ 99) : ∀ (m x fu fu2 B : Nat) (μ ν : gs_M), x + m = T → m < fu → m < fu2 → k < n → VR μ 26 (ν.1 89) (ν.1 83) (ν.2 78 33) st n B → ∃ (r : Int32) (μ' ν' : gs_M), L_X11_trim_32 fu (nI k) (nI T) (nI x) μ = some (r, μ') ∧ L_X12_trim_27 fu2 (nI k) (nI T) (nI x) ν = some (r, ν') ∧ VR μ' 26 (ν'.1 89) (ν'.1 83) (ν'.2 78 33) st n B ∧ FH 26 μ μ' ∧ FS ν ν' := by
  intro m
  induction m with
  | zero =>
    intro x fu fu2 B μ ν hx hf hf2 hk hV
    obtain ⟨fu, rfl⟩ : ∃ m, fu = m + 1 := ⟨fu - 1, by omega⟩
    obtain ⟨fu2, rfl⟩ : ∃ m, fu2 = m + 1 := ⟨fu2 - 1, by omega⟩
    obtain rfl : x = T := by omega
    refine ⟨nI x, μ, ν, ?_, ?_, hV, FH.refl, FS.refl⟩
    · show Bo_X11_trim_32 _ _ _ _ _ = _
      unfold Bo_X11_trim_32
      rw [if_pos (nI_le (Nat.le_refl _) (by omega))]
    · show Bo_X12_trim_27 _ _ _ _ _ = _
      unfold Bo_X12_trim_27
      rw [if_pos (nI_le (Nat.le_refl _) (by omega))]
  | succ m ih =>
    intro x fu fu2 B μ ν hx hf hf2 hk hV
    obtain ⟨fu, rfl⟩ : ∃ m, fu = m + 1 := ⟨fu - 1, by omega⟩
    obtain ⟨fu2, rfl⟩ : ∃ m, fu2 = m + 1 := ⟨fu2 - 1, by omega⟩
    have n4 := hV.1.2.1
    have hlt : ¬ nI T ≤ nI x := nI_ge (by omega) (by omega)
    obtain ⟨c, o, ho, hC⟩ := hV.h hk
    have hC' := hC
    obtain ⟨⟨hc2, hc12, -⟩, -⟩ := hC'
    have cl : ∀ z μ', D_X1_evenOut (26 + 2 + 2 * k) μ = some (z, μ') → L_X11_trim_32 (fu + 1) (nI k) (nI T) (nI x) μ = if z = 0 then some (nI x, μ') else L_X11_trim_32 fu (nI k) (nI T) (nI (x + 1)) μ' := by
      intro z μ' hz
      show Bo_X11_trim_32 _ _ _ _ _ = _
      unfold Bo_X11_trim_32
      rw [if_neg hlt, inb_n (show k < 4 by omega) (by decide), ck_t, nI_clamp (by omega), hz, bd_s, nI_1]
    have ml : L_X12_trim_27 (fu2 + 1) (nI k) (nI T) (nI x) ν = L_X12_trim_41 (L_X12_trim_27 fu2) 4096 (nI k) (nI T) (nI x) 0 0 1 ν := by
      show Bo_X12_trim_27 _ _ _ _ _ = _
      unfold Bo_X12_trim_27
      rw [if_neg hlt]
    rcases ev_loop (q27 := L_X12_trim_27 fu2) (t := nI T) (x3 := nI x) hV.1 hk hC (c - 1) 1 0 0 4096 4096 (by omega) (by omega) (by omega) (by omega) (by omega) with ⟨e1, e2⟩ | ⟨μ1, ν1, e1, e2, e3, e4, e5⟩
    · have h1 : D_X1_evenOut (26 + 2 + 2 * k) μ = some (0, μ) := e1
      refine ⟨nI x, μ, ν, ?_, ?_, hV, FH.refl, FS.refl⟩
      · rw [cl 0 μ h1, if_pos rfl]
      · rw [ml]; exact e2
    · have h1 : D_X1_evenOut (26 + 2 + 2 * k) μ = some (1, μ1) := e1
      obtain ⟨r, μ', ν', u1, u2, u3, u4, u5⟩ := ih (x + 1) fu fu2 B μ1 ν1 (by omega) (by omega) (by omega) hk (hV.of e3 e4 e5)
      refine ⟨r, μ', ν', ?_, ?_, u3, e4.trans u4, e5.trans u5⟩
      · rw [cl 1 μ1 h1, if_neg z10]; exact u1
      · rw [ml]; refine e2.trans ?_; rw [nI_1]; exact u2
theorem op_e {μ ν : gs_M} {n : Nat} {x : Int32} (rm : D_X12_isAfloat ν = some (1, ν)) {z : Int32} (e2 : D_X12_isHold x ν = some (z, ν)) (hz : z = 0 ∨ z = 1) : D_X12_isOpen x ν = some (z, ν) := by
  unfold D_X12_isOpen B_X12_isOpen_19
  rw [rm, bd_s, if_neg z10, e2, bd_s]
  rcases hz with rfl | rfl
  · rw [if_pos rfl]
  · rw [if_neg z10]
theorem op0_e {ν : gs_M} {x : Int32} (rm : D_X12_isAfloat ν = some (0, ν)) : D_X12_isOpen x ν = some (0, ν) := by
  unfold D_X12_isOpen B_X12_isOpen_19
  rw [rm, bd_s, if_pos rfl]
theorem lfin_e {i : Nat} {μ μ' ν0 ν ν' : gs_M} {r : Int32} {x y : Option (Int32 × gs_M)} {st n B : Nat} (hgo : ∀ μ' ν', FW 26 μ μ' → FR ν ν' → cL μ' ν' st (20 * (i + 8)) → RT (i + 8) μ' ν') (he : eM ν0 ν) (fw : FW 26 μ μ') (fr : FR ν ν') (hV : VR μ' 26 (ν'.1 89) (ν'.1 83) (ν'.2 78 33) st n B) (hB : B ≤ 20 * (i + 8)) (hx : x = some (r, μ')) (hy : y = some (r, ν')) : ∃ (r : Int32) (μ' ν' : gs_M), x = some (r, μ') ∧ y = some (r, ν') ∧ RT (i + 8) μ' ν' ∧ eC μ μ' ∧ eM ν0 ν' :=
  ⟨r, μ', ν', hx, hy, hgo μ' ν' fw fr (Or.inr ⟨n, hV.mono hB (Nat.le_refl _)⟩), fun b hb => ⟨fw.1 b (by omega), fw.2 b (by omega)⟩, eM.trans he (fun b hb => ⟨fr.1 b (by omega) (by omega), fr.2.2.1 b (by omega)⟩)⟩
theorem k_trim {i : Nat} (hi : i ≤ 4096) (y0 y1 : Int32) : CALLS i (D_X11_trim y0 y1) (D_X12_trim y0 y1) := by
  intro μ ν0 h0
  obtain ⟨ν, hν, h, he⟩ := th_e h0
  obtain ⟨st, hU, hL, hI, hQ, hgo⟩ := rt_live h
  have hS := hQ.1
  unfold D_X11_trim D_X12_trim 
  simp only [lt1, ← hν, wi_e, ii_e, bd_s]
  rcases rdy_e hL with ⟨rc, rm⟩ | ⟨rc, rm, n, hV, hz⟩
  · exact fin_e (r := -1) h he (by rw [rc, bd_s, if_pos rfl]) (by rw [op0_e rm, bd_s, if_pos rfl])
  have hV' := hV
  obtain ⟨⟨n1, n4, hs, h76, hl, hH⟩, -⟩ := hV'
  rcases hh_e (x := y0) n1 n4 hs h76 hl with ⟨e1, e2⟩ | ⟨k, hk, rfl, e1, e2⟩
  · exact fin_e (r := -1) h he (by rw [rc, bd_s, if_neg z10, e1, bd_s, if_pos rfl]) (by rw [op_e (μ := μ) (n := n) rm e2 (Or.inl rfl), bd_s, if_pos rfl])
  have hk4 : k < 4 := by omega
  rw [rc, bd_s, if_neg z10, e1, bd_s, if_neg z10, op_e (μ := μ) (n := n) rm e2 (Or.inr rfl), bd_s, if_neg z10]
  rcases inN_k y1 (lo := 1) (hi := 99) (L := 1) (H := 99) (by decide) (by decide) with z0 | ⟨z0, a0, b0⟩
  · exact fin_e (r := -1) h he (by rw [z0, if_pos rfl]) (by rw [z0, if_pos rfl])
  rw [z0, if_neg z10, if_neg z10]
  obtain ⟨T, hT, rfl⟩ := ti_nat (x := y1) (m := 99) (by omega) (by omega)
  obtain ⟨r, μ', ν', u1, u2, u3, u4, u5⟩ := trim_loop hT T 0 4096 4096 (20 * i) μ ν (by omega) (by omega) (by omega) hk hV
  exact lfin_e hgo he u4.w u5.r u3 (by omega) u1 u2
theorem k_take {i : Nat} (hi : i ≤ 4096) (y0 y1 y2 : Int32) : CALLS i (D_X11_take y0 y1 y2) (D_X12_take y0 y1 y2) := by
  intro μ ν0 h0
  obtain ⟨ν, hν, h, he⟩ := th_e h0
  obtain ⟨st, hU, hL, hI, hQ, hgo⟩ := rt_live h
  have hS := hQ.1
  unfold D_X11_take D_X12_take 
  simp only [lt1, ← hν, wi_e, ii_e, bd_s]
  rcases rdy_e hL with ⟨rc, rm⟩ | ⟨rc, rm, n, hV, hz⟩
  · refine fin_e (r := -1) h he (by rw [rc, bd_s, if_pos rfl]) ?_
    unfold D_X12_isColumn B_X12_isColumn_28
    rw [op0_e rm, bd_s, if_pos rfl, bd_s, if_pos rfl]
  rcases hc_e (x := y0) (z := y1) hL with ⟨e1, e2⟩ | ⟨n', k, c, o, j, hk, n4, rfl, rfl, hj, c12, hV', hC, ho, e1, e2, e3, w0⟩
  · refine fin_e (r := -1) h he (by rw [rc, bd_s, if_neg z10, e1, bd_s, if_pos rfl]) ?_
    unfold D_X12_isColumn B_X12_isColumn_28
    rcases e2 with e2 | ⟨e2, k, c, hk, rfl, c1, c2, w0, e3⟩
    · rw [op_e (μ := μ) (n := n) rm e2 (Or.inl rfl), bd_s, if_pos rfl, bd_s, if_pos rfl]
    · rw [op_e (μ := μ) (n := n) rm e2 (Or.inr rfl), bd_s, if_neg z10, mof_0 hk, bd_s, w0, ii_e, bd_s, e3, if_pos rfl, bd_s, if_pos rfl]
  have hk4 : k < 4 := by omega
  have em : D_X12_isColumn (nI k) (nI j) ν = some (1, ν) := by
    unfold D_X12_isColumn B_X12_isColumn_28
    rw [op_e (μ := μ) (n := n) rm e2 (Or.inr rfl), bd_s, if_neg z10, mof_0 hk4, bd_s, w0, ii_e, bd_s, e3, if_neg z10]
  rw [rc, bd_s, if_neg z10, e1, bd_s, if_neg z10, em, bd_s, if_neg z10]
  rcases inN_k y2 (lo := 1) (hi := 99) (L := 1) (H := 99) (by decide) (by decide) with z0 | ⟨z0, a0, b0⟩
  · exact fin_e (r := -1) h he (by rw [z0, if_pos rfl]) (by rw [z0, if_pos rfl])
  rw [z0, if_neg z10, if_neg z10]
  have hC' := hC
  obtain ⟨⟨hc2, hc12, ho6, f1, _, w2, -⟩, hu⟩ := hC'
  obtain ⟨uj, uj1, uj2⟩ := hu j (by omega)
  have ee : 26 + 2 + 2 * k + 1 = 28 + 2 * k + 1 := by omega
  have n4' := n4
  obtain ⟨x, hx⟩ : ∃ x, x = (if μ.1 (28 + 2 * k + 1) j < y2 then μ.1 (28 + 2 * k + 1) j else y2) := ⟨_, rfl⟩
  have hxi : 0 ≤ x.toInt ∧ x.toInt ≤ (μ.1 (28 + 2 * k + 1) j).toInt := by
    rw [hx]
    by_cases q : μ.1 (28 + 2 * k + 1) j < y2
    · rw [if_pos q]; omega
    · rw [if_neg q]; rw [ti_lt] at q; omega
  have e5 : (μ.1 (28 + 2 * k + 1) j - x).toInt = (μ.1 (28 + 2 * k + 1) j).toInt - x.toInt := ti_sub (by omega) (by omega)
  obtain ⟨a1, a2, a3⟩ := hV'.1.un (x := μ.1 (28 + 2 * k + 1) j - x) hk (show j < 12 by omega) (by omega) (by omega)
  have hS2 := hS.w (show 26 ≤ 26 by decide) a2.w a3.r
  obtain ⟨r, l1, l2, -⟩ := lean_e a1 hS2
  obtain ⟨μ', ν', t1, t2, t3, t4, t5, -⟩ := vrest_e (y := r) a1 hk
  refine lfin_e (r := x) hgo he (a2.w.trans t4.w) (a3.r.trans t5.r) ((hV'.of a1 a2 a3).of t3 t4 t5) (by omega) ?_ ?_
  · rw [inb_n hk4 (by decide), inb_n (show j < 12 by omega) (by decide)]
    simp only [ck_t, nI_clamp (show k < 2 ^ 31 by omega), nI_clamp (show j < 2 ^ 31 by omega), gI_d, ← hx, ee]
    rw [l1, bd_s, hsN_c, bd_s, t1, bd0_s]
  · rw [mun_e hk4 (by omega), bd_s, ← uj, ← hx, mpl_e, bd_s, inb_n (show 28 + 12 * k + j < 81 by omega) (by decide), ck_t, ck_t, nI_clamp (by omega), gI_d, ← uj, l2, bd_s, t2, bd0_s]
theorem pour_loop {st k j T o c : Nat} (hT : T ≤ 99) (hj : j < 12) : ∀ (m x fu fu2 n B : Nat) (μ ν : gs_M), x + m = T → m < fu → m < fu2 → k < n → VR μ 26 (ν.1 89) (ν.1 83) (ν.2 78 33) st n B → SS μ ν → ∃ (r : Int32) (μ' ν' : gs_M), L_X11_pour_45 fu (nI j) (nI T) (26 + 2 + 2 * k) (nI x) μ = some (r, μ') ∧ L_X12_pour_29 fu2 (nI k) (nI j) (nI T) (nI x) ν = some (r, ν') ∧ VR μ' 26 (ν'.1 89) (ν'.1 83) (ν'.2 78 33) st n B ∧ FH 26 μ μ' ∧ FS ν ν' := by
  intro m
  induction m with
  | zero =>
    intro x fu fu2 n B μ ν hx hf hf2 hk hV hS
    obtain ⟨fu, rfl⟩ : ∃ m, fu = m + 1 := ⟨fu - 1, by omega⟩
    obtain ⟨fu2, rfl⟩ : ∃ m, fu2 = m + 1 := ⟨fu2 - 1, by omega⟩
    obtain rfl : x = T := by omega
    refine ⟨nI x, μ, ν, ?_, ?_, hV, FH.refl, FS.refl⟩
    · show Bo_X11_pour_45 _ _ _ _ _ _ = _
      unfold Bo_X11_pour_45
      rw [if_pos (nI_le (Nat.le_refl _) (by omega))]
    · show Bo_X12_pour_29 _ _ _ _ _ _ = _
      unfold Bo_X12_pour_29
      rw [if_pos (nI_le (Nat.le_refl _) (by omega))]
  | succ m ih =>
    intro x fu fu2 n B μ ν hx hf hf2 hk hV hS
    obtain ⟨fu, rfl⟩ : ∃ m, fu = m + 1 := ⟨fu - 1, by omega⟩
    obtain ⟨fu2, rfl⟩ : ∃ m, fu2 = m + 1 := ⟨fu2 - 1, by omega⟩
    have n4 := hV.1.2.1
    have hk4 : k < 4 := by omega
    have hlt : ¬ nI T ≤ nI x := nI_ge (by omega) (by omega)
    obtain ⟨c, o, ho, hC⟩ := hV.h hk
    have hC' := hC
    obtain ⟨⟨hc2, hc12, ho6, f1, w0, w2, f8, f2, f3, f4, f5, p, b8, b2, b3, b4, -⟩, hu⟩ := hC'
    obtain ⟨uj, uj1, uj2⟩ := hu j hj
    have hmo := moN_i b8.1 b8.2 b4.1 b4.2
    have c1 : (1 : Int32).toInt = 1 := by decide
    have htm := tm_e (u := μ.1 (26 + 2 + 2 * k + 1) j) (x := 1) ⟨uj1, uj2⟩ (by rw [c1]; omega) b8 b4
    rw [c1] at htm
    by_cases hq : moN (μ.1 (26 + 2 + 2 * k) 8) (μ.1 (26 + 2 + 2 * k) 4) ≤ μ.1 (26 + 2 + 2 * k + 1) j
    · refine ⟨nI x, μ, ν, ?_, ?_, hV, FH.refl, FS.refl⟩
      · show Bo_X11_pour_45 _ _ _ _ _ _ = _
        unfold Bo_X11_pour_45
        rw [if_neg hlt, inb_n (show j < 12 by omega) (by decide), ck_t, cmo_e b4.1 b4.2, bd_s, nI_clamp (by omega), gI_d, if_pos hq]
      · show Bo_X12_pour_29 _ _ _ _ _ _ = _
        unfold Bo_X12_pour_29
        rw [if_neg hlt, mun_e hk4 hj, bd_s, mtb_e hk4, bd_s, mof_1 hk4, bd_s, ← uj, ← f4, ← f8, if_neg (fun q => by
          have := htm.mp q
          rw [ti_le] at hq
          omega)]
    · have hq' := hq
      rw [ti_le] at hq'
      have e5 : (μ.1 (26 + 2 + 2 * k + 1) j + 1).toInt = (μ.1 (26 + 2 + 2 * k + 1) j).toInt + 1 := by rw [ti_add (by rw [c1]; omega) (by rw [c1]; omega), c1]
      obtain ⟨a1, a2, a3⟩ := hV.1.un (x := μ.1 (26 + 2 + 2 * k + 1) j + 1) hk hj (by omega) (by omega)
      have hS2 := hS.w (show 26 ≤ 26 by decide) a2.w a3.r
      obtain ⟨r, l1, l2, -⟩ := lean_e a1 hS2
      obtain ⟨μ1, ν1, t1, t2, t3, t4, t5, -⟩ := vrest_e (y := r) a1 hk
      obtain ⟨q, μ', ν', u1, u2, u3, u4, u5⟩ := ih (x + 1) fu fu2 n B μ1 ν1 (by omega) (by omega) (by omega) hk ((hV.of a1 a2 a3).of t3 t4 t5) (hS2.w (by decide) t4.w t5.r)
      refine ⟨q, μ', ν', ?_, ?_, u3, (a2.trans t4).trans u4, (a3.trans t5).trans u5⟩
      · show Bo_X11_pour_45 _ _ _ _ _ _ = _
        unfold Bo_X11_pour_45
        rw [if_neg hlt, inb_n (show j < 12 by omega) (by decide), ck_t, cmo_e b4.1 b4.2, bd_s, nI_clamp (by omega), gI_d, if_neg hq, ck_t, ck_t, lt1, l1, bd_s, hsN_c, bd_s, t1, bd0_s, nI_1]
        exact u1
      · show Bo_X12_pour_29 _ _ _ _ _ _ = _
        unfold Bo_X12_pour_29
        rw [if_neg hlt, mun_e hk4 hj, bd_s, mtb_e hk4, bd_s, mof_1 hk4, bd_s, ← uj, ← f4, ← f8, if_pos (htm.mpr (by omega)), mpl_e, bd_s, inb_n (show 28 + 12 * k + j < 81 by omega) (by decide), ck_t, ck_t, nI_clamp (by omega), lt1, gI_d, ← uj, l2, bd_s, t2, bd0_s, nI_1]
        exact u2
theorem k_pour {i : Nat} (hi : i ≤ 4096) (y0 y1 y2 : Int32) : CALLS i (D_X11_pour y0 y1 y2) (D_X12_pour y0 y1 y2) := by
  intro μ ν0 h0
  obtain ⟨ν, hν, h, he⟩ := th_e h0
  obtain ⟨st, hU, hL, hI, hQ, hgo⟩ := rt_live h
  have hS := hQ.1
  unfold D_X11_pour D_X12_pour 
  simp only [lt1, ← hν, wi_e, ii_e, bd_s]
  rcases rdy_e hL with ⟨rc, rm⟩ | ⟨rc, rm, n, hV, hz⟩
  · refine fin_e (r := -1) h he (by rw [rc, bd_s, if_pos rfl]) ?_
    unfold D_X12_isColumn B_X12_isColumn_28
    rw [op0_e rm, bd_s, if_pos rfl, bd_s, if_pos rfl]
  rcases hc_e (x := y0) (z := y1) hL with ⟨e1, e2⟩ | ⟨n', k, c, o, j, hk, n4, rfl, rfl, hj, c12, hV', hC, ho, e1, e2, e3, w0⟩
  · refine fin_e (r := -1) h he (by rw [rc, bd_s, if_neg z10, e1, bd_s, if_pos rfl]) ?_
    unfold D_X12_isColumn B_X12_isColumn_28
    rcases e2 with e2 | ⟨e2, k, c, hk, rfl, c1, c2, w0, e3⟩
    · rw [op_e (μ := μ) (n := n) rm e2 (Or.inl rfl), bd_s, if_pos rfl, bd_s, if_pos rfl]
    · rw [op_e (μ := μ) (n := n) rm e2 (Or.inr rfl), bd_s, if_neg z10, mof_0 hk, bd_s, w0, ii_e, bd_s, e3, if_pos rfl, bd_s, if_pos rfl]
  have hk4 : k < 4 := by omega
  have em : D_X12_isColumn (nI k) (nI j) ν = some (1, ν) := by
    unfold D_X12_isColumn B_X12_isColumn_28
    rw [op_e (μ := μ) (n := n) rm e2 (Or.inr rfl), bd_s, if_neg z10, mof_0 hk4, bd_s, w0, ii_e, bd_s, e3, if_neg z10]
  rw [rc, bd_s, if_neg z10, e1, bd_s, if_neg z10, em, bd_s, if_neg z10]
  rcases inN_k y2 (lo := 1) (hi := 99) (L := 1) (H := 99) (by decide) (by decide) with z0 | ⟨z0, a0, b0⟩
  · exact fin_e (r := -1) h he (by rw [z0, if_pos rfl]) (by rw [z0, if_pos rfl])
  rw [z0, if_neg z10, if_neg z10]
  obtain ⟨T, hT, rfl⟩ := ti_nat (x := y2) (m := 99) (by omega) (by omega)
  obtain ⟨r, μ', ν', u1, u2, u3, u4, u5⟩ := pour_loop (o := o) (c := c) hT (show j < 12 by omega) T 0 4096 4096 n' (20 * i) μ ν (by omega) (by omega) (by omega) hk hV' hS
  refine lfin_e hgo he u4.w u5.r u3 (by omega) ?_ u2
  rw [inb_n hk4 (by decide), ck_t, nI_clamp (by omega)]
  exact u1
