/-! rolls -/
theorem HF.go5 {f f' w w' p : Nat → Int32} {k c o : Nat} (hk : k < 4) (h : HF f w p k c o) (hf : ∀ j, j ≠ 5 → j ≠ 6 → j ≠ 7 → f' j = f j) (hw : ∀ j, 7 * k ≤ j → j < 7 * k + 7 → j ≠ 7 * k + 6 → w' j = w j) (h5 : f' 5 = w' (7 * k + 6)) : HF f' w' p k c o := by
  unfold HF at *
  rw [hf 1 (by decide) (by decide) (by decide), hf 2 (by decide) (by decide) (by decide), hf 3 (by decide) (by decide) (by decide), hf 4 (by decide) (by decide) (by decide), hf 8 (by decide) (by decide) (by decide), hf 9 (by decide) (by decide) (by decide), hf 10 (by decide) (by decide) (by decide), hf 11 (by decide) (by decide) (by decide), hf 12 (by decide) (by decide) (by decide), hf 13 (by decide) (by decide) (by decide)]
  rw [hw (7 * k) (by omega) (by omega) (by omega), hw (7 * k + 1) (by omega) (by omega) (by omega), hw (7 * k + 2) (by omega) (by omega) (by omega), hw (7 * k + 3) (by omega) (by omega) (by omega), hw (7 * k + 4) (by omega) (by omega) (by omega), hw (7 * k + 5) (by omega) (by omega) (by omega), h5]
  obtain ⟨h1, h2, h3, h4, h5, h6, h7, h8, h9, h10, h11, h12⟩ := h
  exact ⟨h1, h2, h3, h4, h5, h6, h7, h8, h9, h10, rfl, h12⟩
theorem VH.go {μ μ' : gs_M} {v k st B : Nat} {w w' p : Nat → Int32} (hk : k < 4) (h : VH μ v w p st B k) (ha : ∀ j, j ≠ 6 → j ≠ 7 → μ'.1 (v + 2 + 2 * k) j = μ.1 (v + 2 + 2 * k) j) (hu : μ'.1 (v + 2 + 2 * k + 1) = μ.1 (v + 2 + 2 * k + 1)) (hw : ∀ j, j < 76 → w' j = w j) : VH μ' v w' p st B k := by
  obtain ⟨⟨c, o, ho, hF, hU⟩, hb⟩ := h
  refine ⟨⟨c, o, ho, hF.go hk ha (fun j hj => hw j (by omega)), hU.go (fun i _ => by rw [hu]) (fun i hi => hw _ (by omega))⟩, ?_⟩
  rw [hw _ (by omega)]
  exact hb
theorem VC.go {μ μ' : gs_M} {v st n B : Nat} {w w' p : Nat → Int32} (h : VC μ v w p st n B) (h1 : μ'.1 v 1 = μ.1 v 1) (hμ : ∀ b, v + 2 ≤ b → b < v + 10 → μ'.1 b = μ.1 b) (hw : ∀ j, j < 77 → w' j = w j) (h80 : w' 80 = w 80) : VC μ' v w' p st n B := by
  obtain ⟨n1, n4, hs, h76, hl, hH⟩ := h
  refine ⟨n1, n4, h1.trans hs, (hw 76 (by omega)).trans h76, h80.trans hl, fun k hk => ?_⟩
  exact (hH k hk).go (by omega) (fun j _ _ => by rw [hμ _ (by omega) (by omega)]) (hμ _ (by omega) (by omega)) (fun j hj => hw j (by omega))
theorem VC.mono {μ : gs_M} {v st st' n B B' : Nat} {w p : Nat → Int32} (h : VC μ v w p st n B) (hB : B ≤ B') (hst : st ≤ st') : VC μ v w p st' n B' := by
  obtain ⟨n1, n4, hs, h76, hl, hH⟩ := h
  refine ⟨n1, n4, hs, h76, hl, fun k hk => ?_⟩
  obtain ⟨⟨c, o, ho, hF, hU⟩, hb⟩ := hH k hk
  exact ⟨⟨c, o, by omega, hF, hU⟩, by omega, by omega⟩
theorem wr_loop {μ : gs_M} {v n : Nat} (hs : μ.1 v 1 = nI n) (hn : n ≤ 4) : ∀ (m k fu : Nat), k + m = n → m < fu → L_X10_wentRight_4 fu v (gR 6 μ v k) (nI k) μ = some (gR 6 μ v n, μ) := by
  intro m
  induction m with
  | zero =>
    intro k fu hk hf
    obtain ⟨fu, rfl⟩ : ∃ m, fu = m + 1 := ⟨fu - 1, by omega⟩
    obtain rfl : k = n := by omega
    show Bo_X10_wentRight_4 _ _ _ _ _ = _
    unfold Bo_X10_wentRight_4
    rw [gI_d, hs, if_pos (nI_le (by omega) (by omega))]
  | succ m ih =>
    intro k fu hk hf
    obtain ⟨fu, rfl⟩ : ∃ m, fu = m + 1 := ⟨fu - 1, by omega⟩
    show Bo_X10_wentRight_4 _ _ _ _ _ = _
    unfold Bo_X10_wentRight_4
    simp only [gI_d, hs, if_neg (nI_ge (show k < n by omega) (by omega)), inb_n (show k < 4 by omega) (by omega), ck_t, nI_clamp (show k < 2 ^ 31 by omega), lt1, nI_1]
    exact ih (k + 1) fu (by omega) (by omega)
theorem wl_loop {μ : gs_M} {v n : Nat} (hs : μ.1 v 1 = nI n) (hn : n ≤ 4) : ∀ (m k fu : Nat), k + m = n → m < fu → L_X10_wentLeft_4 fu v (gR 7 μ v k) (nI k) μ = some (gR 7 μ v n, μ) := by
  intro m
  induction m with
  | zero =>
    intro k fu hk hf
    obtain ⟨fu, rfl⟩ : ∃ m, fu = m + 1 := ⟨fu - 1, by omega⟩
    obtain rfl : k = n := by omega
    show Bo_X10_wentLeft_4 _ _ _ _ _ = _
    unfold Bo_X10_wentLeft_4
    rw [gI_d, hs, if_pos (nI_le (by omega) (by omega))]
  | succ m ih =>
    intro k fu hk hf
    obtain ⟨fu, rfl⟩ : ∃ m, fu = m + 1 := ⟨fu - 1, by omega⟩
    show Bo_X10_wentLeft_4 _ _ _ _ _ = _
    unfold Bo_X10_wentLeft_4
    simp only [gI_d, hs, if_neg (nI_ge (show k < n by omega) (by omega)), inb_n (show k < 4 by omega) (by omega), ck_t, nI_clamp (show k < 2 ^ 31 by omega), lt1, nI_1]
    exact ih (k + 1) fu (by omega) (by omega)
theorem wr_e {μ : gs_M} {v n : Nat} (hs : μ.1 v 1 = nI n) (hn : n ≤ 4) : D_X10_wentRight v μ = some (gR 6 μ v n, μ) := wr_loop hs hn n 0 4096 (by omega) (by omega)
theorem wl_e {μ : gs_M} {v n : Nat} (hs : μ.1 v 1 = nI n) (hn : n ≤ 4) : D_X10_wentLeft v μ = some (gR 7 μ v n, μ) := wl_loop hs hn n 0 4096 (by omega) (by omega)
theorem gR_zero {j v : Nat} {μ : gs_M} : ∀ {n : Nat}, (∀ k, k < n → μ.1 (v + 2 + 2 * k) j = 0) → gR j μ v n = 0
  | 0, _ => rfl
  | n + 1, h => by
    show gR j μ v n + _ = 0
    rw [gR_zero (fun k hk => h k (by omega)), h n (by omega)]
    rfl
/-- all rest, the reference's loop F that ends in G -/
theorem rall_e {μ ν : gs_M} {v st n B : Nat} {y : Int32} {α : Type} (F : Nat → Int32 → gs_M → Option α) (G : gs_M → Option α) (hF : ∀ (fu k : Nat) (ν : gs_M), k < n → ν.1 89 76 = nI n → F (fu + 1) (nI k) ν = bd0 (D_X12_rests (nI k) y ν) (fun u => F fu (nI (k + 1)) u)) (hE : ∀ (fu : Nat) (ν : gs_M), ν.1 89 76 = nI n → F (fu + 1) (nI n) ν = G ν) (hV : VC μ v (ν.1 89) (ν.1 83) st n B) :
    ∃ (μ' ν' : gs_M), D_X10_restAll v y μ = some μ' ∧ F 4096 0 ν = G ν' ∧ VC μ' v (ν'.1 89) (ν'.1 83) st n B ∧ FH v μ μ' ∧ FS ν ν' ∧ (GG μ v ν n → GG μ' v ν' n) ∧ (∀ T, (∀ i, i < n → HB T μ v i) → ∀ i, i < n → HB (T + 7920) μ' v i) := by
  have hn4 := hV.2.1
  obtain ⟨μ', ν', t1, t2, t3, t4, t5, t6, t7, t8⟩ := vall_e (v := v) (st := st) (B := B) F hF n 0 4096 (4096 - n) μ ν (by omega) (by omega) hV
  refine ⟨μ', ν', ?_, ?_, t3, t4, t5, t6, fun T hT i hi => t8 T (fun i _ h => hT i h) i (by omega) hi⟩
  · unfold D_X10_restAll
    rw [hsN_c, bd_s]
    exact t1
  · rw [Nat.sub_add_cancel (show n ≤ 4096 by omega)] at t2
    obtain ⟨f, hf⟩ : ∃ f, 4096 - n = f + 1 := ⟨4095 - n, by omega⟩
    rw [hf, hE f ν' t3.2.2.2.1] at t2
    exact t2
/-- clear the counts, shake -/
theorem shk_loop {v st n B : Nat} {x : Int32} (hx : 0 ≤ x.toInt ∧ x.toInt ≤ 40) (hB : B < 1000000000) :
    ∀ (m k fu fu2 : Nat) (μ ν : gs_M), k + m = n → VC μ v (ν.1 89) (ν.1 83) st n (B + 40) → (∀ i, k ≤ i → i < n → (ν.1 89 (7 * i + 6)).toInt ≤ B) → (∀ i, i < k → μ.1 (v + 2 + 2 * i) 6 = 0 ∧ μ.1 (v + 2 + 2 * i) 7 = 0) →
    ∃ (μ' ν' : gs_M), L_X10_rollBy_2 (fu + m) v x (nI k) μ = L_X10_rollBy_2 fu v x (nI n) μ' ∧ L_X12_rolls_23 (fu2 + m) x (nI k) ν = L_X12_rolls_23 fu2 x (nI n) ν' ∧ VC μ' v (ν'.1 89) (ν'.1 83) st n (B + 40) ∧ FH v μ μ' ∧ FS ν ν' ∧ ν'.1 78 = ν.1 78 ∧ (∀ i, i < n → μ'.1 (v + 2 + 2 * i) 6 = 0 ∧ μ'.1 (v + 2 + 2 * i) 7 = 0) := by
  intro m
  induction m with
  | zero =>
    intro k fu fu2 μ ν hk hV hb hz
    obtain rfl : k = n := by omega
    exact ⟨μ, ν, rfl, rfl, hV, FH.refl, FS.refl, rfl, hz⟩
  | succ m ih =>
    intro k fu fu2 μ ν hk hV hb hz
    have hV2 := hV
    obtain ⟨n1, n4, hs, h76, hl, hH⟩ := hV2
    have hk4 : k < 4 := by omega
    obtain ⟨a, ha⟩ : ∃ a, a = v + 2 + 2 * k := ⟨_, rfl⟩
    obtain ⟨μ1, hμ1⟩ : ∃ μ1, μ1 = sI (sI (sI μ a 6 0) a 7 0) a 5 (μ.1 a 5 + x) := ⟨_, rfl⟩
    obtain ⟨ν1, hν1⟩ : ∃ ν1, ν1 = sI ν 89 (7 * k + 6) (ν.1 89 (7 * k + 6) + x) := ⟨_, rfl⟩
    have e1 : ∀ b, b ≠ a → μ1.1 b = μ.1 b := fun b h => by rw [hμ1, sI_n _ _ _ h, sI_n _ _ _ h, sI_n _ _ _ h]
    have e2 : μ1.1 a = upd (upd (upd (μ.1 a) 6 0) 7 0) 5 (μ.1 a 5 + x) := by rw [hμ1, sI_s, sI_s, sI_s]
    have e3 : μ1.2 = μ.2 := by rw [hμ1]; rfl
    have e4 : ∀ b, b ≠ 89 → ν1.1 b = ν.1 b := fun b h => by rw [hν1, sI_n _ _ _ h]
    have e5 : ν1.1 89 = upd (ν.1 89) (7 * k + 6) (ν.1 89 (7 * k + 6) + x) := by rw [hν1, sI_s]
    have e6 : ν1.2 = ν.2 := by rw [hν1]; rfl
    have hbk := hb k (by omega) (by omega)
    obtain ⟨⟨c, o, ho, hFk, hUk⟩, hbk2⟩ := hH k (by omega)
    rw [← ha] at hFk hUk
    have hxx : (ν.1 89 (7 * k + 6) + x).toInt = (ν.1 89 (7 * k + 6)).toInt + x.toInt := ti_add (by omega) (by omega)
    have hV1 : VC μ1 v (ν1.1 89) (ν1.1 83) st n (B + 40) := by
      refine ⟨n1, n4, by rw [e1 v (by omega)]; exact hs, by rw [e5, pk_un (by omega)]; exact h76, by rw [e5, pk_un (by omega)]; exact hl, fun i hi => ?_⟩
      rw [e4 83 (by decide)]
      by_cases q : i = k
      · subst q
        refine ⟨⟨c, o, ho, ?_, ?_⟩, ?_⟩
        · rw [← ha, e2, e5]
          refine hFk.go5 hk4 (fun j j5 j6 j7 => by rw [pk_un j5, pk_un j7, pk_un j6]) (fun j _ hj hj2 => by rw [pk_un hj2]) ?_
          rw [pk_us, pk_us]
          obtain ⟨_, _, _, _, _, _, _, _, _, _, f5, _⟩ := hFk
          rw [f5]
        · rw [← ha]
          exact hUk.go (fun j _ => by rw [e1 _ (by omega)]) (fun j hj => by rw [e5, pk_un (by omega)])
        · rw [e5, pk_us, hxx]
          omega
      · obtain ⟨⟨c2, o2, ho2, hF2, hU2⟩, hb2⟩ := hH i hi
        refine ⟨⟨c2, o2, ho2, ?_, ?_⟩, ?_⟩
        · refine hF2.go5 (by omega) (fun j _ _ _ => by rw [e1 _ (by omega)]) (fun j hj0 hj _ => ?_) ?_
          · rw [e5, pk_un (by omega)]
          · rw [e1 _ (by omega), e5, pk_un (by omega)]
            obtain ⟨_, _, _, _, _, _, _, _, _, _, f5, _⟩ := hF2
            exact f5
        · exact hU2.go (fun j _ => by rw [e1 _ (by omega)]) (fun j hj => by rw [e5, pk_un (by omega)])
        · rw [e5, pk_un (by omega)]
          exact hb2
    obtain ⟨μ', ν', t1, t2, t3, t4, t5, t6, t7⟩ := ih (k + 1) fu fu2 μ1 ν1 (by omega) hV1 (fun i h1 h2 => by rw [e5, pk_un (by omega)]; exact hb i (by omega) h2) (fun i hi => by
      by_cases q : i = k
      · subst q
        rw [← ha, e2]
        exact ⟨by rw [pk_un (by decide), pk_un (by decide), pk_us], by rw [pk_un (by decide), pk_us]⟩
      · rw [e1 _ (by omega)]
        exact hz i (by omega))
    refine ⟨μ', ν', ?_, ?_, t3, FH.trans ⟨fun b hb => e1 b (by omega), e3, fun i hi => by
      by_cases q : i = k
      · subst q; rw [← ha, e2, pk_un (by decide), pk_un (by decide), pk_un (by decide)]
      · rw [e1 _ (by omega)]⟩ t4, FS.trans ⟨fun b _ h => e4 b h, fun j _ _ => by rw [e4 78 (by decide)], fun j hj => by rw [e5, pk_un (by omega)], e6⟩ t5, t6.trans (e4 78 (by decide)), t7⟩
    · refine Eq.trans ?_ t1
      show Bo_X10_rollBy_2 _ _ _ _ _ = _
      unfold Bo_X10_rollBy_2 D_X1_clearCounts
      simp only [gI_d, hs, if_neg (nI_ge (show k < n by omega) (by omega)), inb_n (show k < 4 by omega) (by omega), ck_t, nI_clamp (show k < 2 ^ 31 by omega), lt1, nI_1, bd0_s, ← ha, sI_s, pk_un (show 5 ≠ 7 by decide), pk_un (show 5 ≠ 6 by decide), ← hμ1]
      rfl
    · refine Eq.trans ?_ t2
      show Bo_X12_rolls_23 _ _ _ _ = _
      unfold Bo_X12_rolls_23
      rw [mnw_76, bd_s, h76, if_neg (nI_ge (show k < n by omega) (by omega))]
      rw [show (7 : Int32) * nI k + 6 = nI (7 * k + 6) by rw [show (7 : Int32) = nI 7 from rfl, pk_mul, show (6 : Int32) = nI 6 from rfl, nI_add]]
      simp only [inb_n (show 7 * k + 6 < 81 by omega) (by omega), ck_t, nI_clamp (show 7 * k + 6 < 2 ^ 31 by omega), lt1, gI_d, ← hν1, nI_1]
      rfl
def VR (μ : gs_M) (v : Nat) (w p : Nat → Int32) (d : Int64) (st n B : Nat) : Prop := VC μ v w p st n B ∧ μ.1 v 2 = w 77 ∧ μ.1 v 3 = w 78 ∧ μ.1 v 4 = w 79 ∧ (w 79 = 0 ∨ w 79 = 1) ∧ (0 ≤ (w 78).toInt ∧ (w 78).toInt ≤ B) ∧ μ.2 v 5 = d
def FW (v : Nat) (μ μ' : gs_M) : Prop := (∀ b, b < v ∨ v + 10 ≤ b → μ'.1 b = μ.1 b) ∧ (∀ b, b ≠ v → μ'.2 b = μ.2 b)
def FR (ν ν' : gs_M) : Prop := (∀ b, b ≠ 78 → b ≠ 89 → ν'.1 b = ν.1 b) ∧ (∀ j, j ≠ 37 → j ≠ 38 → ν'.1 78 j = ν.1 78 j) ∧ (∀ b, b ≠ 78 → ν'.2 b = ν.2 b) ∧ (∀ j, j ≠ 33 → ν'.2 78 j = ν.2 78 j)
theorem FW.refl {v : Nat} {μ : gs_M} : FW v μ μ := ⟨fun _ _ => rfl, fun _ _ => rfl⟩
theorem FR.refl {μ : gs_M} : FR μ μ := ⟨fun _ _ _ => rfl, fun _ _ _ => rfl, fun _ _ => rfl, fun _ _ => rfl⟩
theorem FW.trans {v : Nat} {μ0 μ1 μ2 : gs_M} (h : FW v μ0 μ1) (g : FW v μ1 μ2) : FW v μ0 μ2 := ⟨fun b hb => (g.1 b hb).trans (h.1 b hb), fun b hb => (g.2 b hb).trans (h.2 b hb)⟩
theorem FR.trans {μ0 μ1 μ2 : gs_M} (h : FR μ0 μ1) (g : FR μ1 μ2) : FR μ0 μ2 := ⟨fun b h1 h2 => (g.1 b h1 h2).trans (h.1 b h1 h2), fun b h1 h2 => (g.2.1 b h1 h2).trans (h.2.1 b h1 h2), fun j hj => (g.2.2.1 j hj).trans (h.2.2.1 j hj), fun j hj => (g.2.2.2 j hj).trans (h.2.2.2 j hj)⟩
theorem FH.w {v : Nat} {μ μ' : gs_M} (h : FH v μ μ') : FW v μ μ' := ⟨fun b hb => h.1 b (by omega), fun b _ => by rw [h.2.1]⟩
theorem FS.r {μ μ' : gs_M} (h : FS μ μ') : FR μ μ' := ⟨h.1, h.2.1, fun b _ => by rw [h.2.2.2], fun b _ => by rw [h.2.2.2]⟩
theorem SS.go {μ ν μ' ν' : gs_M} (h : SS μ ν) (h1 : μ'.1 25 = μ.1 25) (h2 : ∀ j, 27 ≤ j → j ≤ 29 → ν'.1 78 j = ν.1 78 j) : SS μ' ν' := by
  unfold SS at *
  rw [h1, h2 27 (by omega) (by omega), h2 28 (by omega) (by omega), h2 29 (by omega) (by omega)]
  exact h
theorem SS.w {μ ν μ' ν' : gs_M} {v : Nat} (h : SS μ ν) (hv : 26 ≤ v) (h1 : FW v μ μ') (h2 : FR ν ν') : SS μ' ν' := h.go (h1.1 25 (by omega)) (fun j _ _ => h2.2.1 j (by omega) (by omega))
def abN (x : Int32) : Int32 := if 0 ≤ x then x else 0 - x
theorem tf_e {μ ν : gs_M} {v st n B : Nat} (hV : VC μ v (ν.1 89) (ν.1 83) st n B) (hS : SS μ ν) : ∃ r : Int32, D_X12_lean ν = some (r, ν) ∧ D_X10_isTooFar v μ = some (if abN r < ν.1 78 29 then 0 else 1, μ) := by
  obtain ⟨r, h1, h2, -⟩ := lean_e hV hS
  refine ⟨r, h2, ?_⟩
  unfold D_X10_isTooFar abN
  simp only [h1, bd_s, lt1, gI_d, hS.2.2.1]
  by_cases h : (if 0 ≤ r then r else 0 - r) < ν.1 78 29
  · rw [if_pos h, if_pos h]
  · rw [if_neg h, if_neg h]
theorem roll_e {μ ν : gs_M} {v st n B : Nat} {x : Int32} (hV : VR μ v (ν.1 89) (ν.1 83) (ν.2 78 33) st n B) (hS : SS μ ν) (hv : 26 ≤ v) (hx : 0 ≤ x.toInt ∧ x.toInt ≤ 40) (hB : B < 1000000000) :
    ∃ (μ' ν' : gs_M), D_X10_rollBy v x μ = some (ν'.1 78 37 + ν'.1 78 38, μ') ∧ D_X12_rolls x ν = some ν' ∧ GG μ' v ν' n ∧ VR μ' v (ν'.1 89) (ν'.1 83) (ν'.2 78 33) st n (B + 40) ∧ FW v μ μ' ∧ FR ν ν' ∧ ν'.1 89 78 = ν.1 89 78 ∧ (∀ k, k < 4 → μ'.1 (v + 2 + 2 * k) 1 = μ.1 (v + 2 + 2 * k) 1) ∧ ∃ t1 t2 : Nat, t1 ≤ 63360 ∧ t2 ≤ 63360 ∧ ν'.1 78 37 = nI t1 ∧ ν'.1 78 38 = nI t2 := by
  obtain ⟨hC, ht, hd, hlo, hlo2, hdb, hdr⟩ := hV
  have hC2 := hC
  obtain ⟨n1, n4, hs, h76, hl, hH⟩ := hC2
  -- the reference's beginning
  obtain ⟨ν0, hν0⟩ : ∃ ν0, ν0 = sI (sI (sI ν 78 37 0) 78 38 0) 89 77 (ν.1 89 77 + 1) := ⟨_, rfl⟩
  have m1 : ν0.1 89 = upd (ν.1 89) 77 (ν.1 89 77 + 1) := by rw [hν0, sI_s, sI_n _ _ _ (by decide), sI_n _ _ _ (by decide)]
  have m2 : ν0.1 78 = upd (upd (ν.1 78) 37 0) 38 0 := by rw [hν0, sI_n _ _ _ (by decide), sI_s, sI_s]
  have m3 : ∀ b, b ≠ 78 → b ≠ 89 → ν0.1 b = ν.1 b := fun b h1 h2 => by rw [hν0, sI_n _ _ _ h2, sI_n _ _ _ h1, sI_n _ _ _ h1]
  have m4 : ν0.2 = ν.2 := by rw [hν0]; rfl
  have fr0 : FR ν ν0 := ⟨m3, fun j h1 h2 => by rw [m2, pk_un h2, pk_un h1], fun _ _ => by rw [m4], fun _ _ => by rw [m4]⟩
  have hC0 : VC μ v (ν0.1 89) (ν0.1 83) st n (B + 40) := by
    rw [m3 83 (by decide) (by decide)]
    exact (hC.mono (by omega) (Nat.le_refl _)).go rfl (fun _ _ _ => rfl) (fun j hj => by rw [m1, pk_un (by omega)]) (by rw [m1, pk_un (by decide)])
  obtain ⟨f1, hf1⟩ : ∃ f, 4096 = (f + 1) + n := ⟨4095 - n, by omega⟩
  obtain ⟨μ1, ν1, s1, s2, s3, s4, s5, s6, s7⟩ := shk_loop (v := v) (st := st) hx hB n 0 (f1 + 1) (f1 + 1) μ ν0 (by omega) hC0 (fun i _ hi => by rw [m1, pk_un (by omega)]; exact (hH i hi).2.2) (fun i hi => absurd hi (by omega))
  rw [← hf1] at s1 s2
  have hs1 : μ1.1 v 1 = nI n := s3.2.2.1
  have h761 : ν1.1 89 76 = nI n := s3.2.2.2.1
  -- the class's tick
  obtain ⟨μ2, hμ2⟩ : ∃ μ2, μ2 = sI μ1 v 2 (μ1.1 v 2 + 1) := ⟨_, rfl⟩
  have c1 : μ2.1 v = upd (μ1.1 v) 2 (μ1.1 v 2 + 1) := by rw [hμ2, sI_s]
  have c2 : ∀ b, b ≠ v → μ2.1 b = μ1.1 b := fun b h => by rw [hμ2, sI_n _ _ _ h]
  have c3 : μ2.2 = μ1.2 := by rw [hμ2]; rfl
  have hC1 : VC μ2 v (ν1.1 89) (ν1.1 83) st n (B + 40) := s3.go (by rw [c1, pk_un (by decide)]) (fun b h1 h2 => c2 b (by omega)) (fun _ _ => rfl) rfl
  have fw2 : FW v μ μ2 := s4.w.trans ⟨fun b hb => c2 b (by omega), fun b _ => by rw [c3]⟩
  have fr1 : FR ν ν1 := fr0.trans s5.r
  have hS1 : SS μ2 ν1 := hS.w hv fw2 fr1
  have hG1 : GG μ2 v ν1 n := by
    refine ⟨?_, ?_⟩
    · rw [s6, m2, pk_un (by decide), pk_us, gR_zero (fun k hk => by rw [c2 _ (by omega)]; exact (s7 k hk).1)]
    · rw [s6, m2, pk_us, gR_zero (fun k hk => by rw [c2 _ (by omega)]; exact (s7 k hk).2)]
  -- first lean and rest
  obtain ⟨r1, l1, l2, -⟩ := lean_e hC1 hS1
  obtain ⟨μ3, ν3, t1, t2, t3, t4, t5, t6, t7⟩ := rall_e (μ := μ2) (y := r1 + x) (fun fu k ν => L_X12_rolls_62 fu x r1 k ν) (fun ν => bd (D_X12_lean ν) (fun v7 u6 => L_X12_rolls_94 4096 x v7 (0 : Int32) u6)) (fun fu k ν hk h => by
      show Bo_X12_rolls_62 _ _ _ _ _ = _
      unfold Bo_X12_rolls_62
      rw [mnw_76, bd_s, h, if_neg (nI_ge hk (by omega)), nI_1]) (fun fu ν h => by
      show Bo_X12_rolls_62 _ _ _ _ _ = _
      unfold Bo_X12_rolls_62
      rw [mnw_76, bd_s, h, if_pos (nI_le (Nat.le_refl _) (by omega))]) hC1
  have hS3 : SS μ3 ν3 := hS1.w hv t4.w t5.r
  obtain ⟨r3, l3, l4, -⟩ := lean_e t3 hS3
  obtain ⟨μ4, ν4, u1, u2, u3, u4, u5, u6, u7⟩ := rall_e (μ := μ3) (y := r3 - x) (fun fu k ν => L_X12_rolls_94 fu x r3 k ν) (fun u2 => (bd (D_X12_lean u2) (fun v7 u6 => lt1 (if 0 ≤ v7 then v7 else 0 - v7) (fun v8 => if v8 < (gI u6 78 29) then (B_X12_rolls_145 (79 : Int32) (0 : Int32) u6) else (B_X12_rolls_145 (79 : Int32) (1 : Int32) u6))))) (fun fu k ν hk h => by
      show Bo_X12_rolls_94 _ _ _ _ _ = _
      unfold Bo_X12_rolls_94
      rw [mnw_76, bd_s, h, if_neg (nI_ge hk (by omega)), nI_1]) (fun fu ν h => by
      show Bo_X12_rolls_94 _ _ _ _ _ = _
      unfold Bo_X12_rolls_94
      rw [mnw_76, bd_s, h, if_pos (nI_le (Nat.le_refl _) (by omega))]) t3
  have hS4 : SS μ4 ν4 := hS3.w hv u4.w u5.r
  obtain ⟨r5, l5, l6⟩ := tf_e u3 hS4
  obtain ⟨z, hz⟩ : ∃ z : Int32, z = if abN r5 < ν4.1 78 29 then 0 else 1 := ⟨_, rfl⟩
  have hz01 : z = 0 ∨ z = 1 := by
    rw [hz]
    by_cases h : abN r5 < ν4.1 78 29
    · rw [if_pos h]; exact Or.inl rfl
    · rw [if_neg h]; exact Or.inr rfl
  obtain ⟨μ5, hμ5⟩ : ∃ μ5, μ5 = sI μ4 v 4 z := ⟨_, rfl⟩
  obtain ⟨ν5, hν5⟩ : ∃ ν5, ν5 = sI ν4 89 79 z := ⟨_, rfl⟩
  have d1 : μ5.1 v = upd (μ4.1 v) 4 z := by rw [hμ5, sI_s]
  have d2 : ∀ b, b ≠ v → μ5.1 b = μ4.1 b := fun b h => by rw [hμ5, sI_n _ _ _ h]
  have d3 : μ5.2 = μ4.2 := by rw [hμ5]; rfl
  have d4 : ν5.1 89 = upd (ν4.1 89) 79 z := by rw [hν5, sI_s]
  have d5 : ∀ b, b ≠ 89 → ν5.1 b = ν4.1 b := fun b h => by rw [hν5, sI_n _ _ _ h]
  have d6 : ν5.2 = ν4.2 := by rw [hν5]; rfl
  have hC5 : VC μ5 v (ν5.1 89) (ν5.1 83) st n (B + 40) := by
    rw [d5 83 (by decide)]
    exact u3.go (by rw [d1, pk_un (by decide)]) (fun b h1 h2 => d2 b (by omega)) (fun j hj => by rw [d4, pk_un (by omega)]) (by rw [d4, pk_un (by decide)])
  have hG5 : GG μ5 v ν5 n := by
    obtain ⟨g1, g2⟩ := u6 (t6 hG1)
    refine ⟨?_, ?_⟩
    · rw [d5 78 (by decide), g1]; exact (gR_same (fun k hk => by rw [d2 _ (by omega)])).symm
    · rw [d5 78 (by decide), g2]; exact (gR_same (fun k hk => by rw [d2 _ (by omega)])).symm
  have hv4 : ∀ j, μ4.1 v j = μ2.1 v j := fun j => by rw [u4.1 v (by omega), t4.1 v (by omega)]
  have hv1 : μ1.1 v = μ.1 v := s4.1 v (by omega)
  have hw4 : ∀ j, 76 ≤ j → ν4.1 89 j = ν0.1 89 j := fun j hj => by rw [u5.2.2.1 j hj, t5.2.2.1 j hj, s5.2.2.1 j hj]
  refine ⟨μ5, ν5, ?_, ?_, hG5, ⟨hC5, ?_, ?_, ?_, ?_, ?_, ?_⟩, (fw2.trans t4.w).trans (u4.w.trans ⟨fun b hb => d2 b (by omega), fun b _ => by rw [d3]⟩), (fr1.trans t5.r).trans (u5.r.trans ⟨fun b _ h => d5 b h, fun j _ _ => by rw [d5 78 (by decide)], fun _ _ => by rw [d6], fun _ _ => by rw [d6]⟩), ?_, fun k hk => by rw [d2 _ (by omega), u4.2.2 k hk, t4.2.2 k hk, c2 _ (by omega), s4.2.2 k hk], ?_⟩
  · unfold D_X10_rollBy
    refine s1.trans ?_
    show Bo_X10_rollBy_2 _ _ _ _ _ = _
    unfold Bo_X10_rollBy_2
    rw [gI_d, hs1, if_pos (nI_le (Nat.le_refl _) (by omega))]
    simp only [gI_d, lt1, ← hμ2, l1, bd_s, t1, bd0_s, l3, u1, l6, ← hz]
    rw [show zb z = true from by rcases hz01 with h | h <;> rw [h] <;> rfl, ck_t]
    simp only [← hμ5, wr_e hC5.2.2.1 n4, wl_e hC5.2.2.1 n4, bd_s]
    rw [hG5.1, hG5.2]
  · unfold D_X12_rolls
    simp only [lt1, show inb (77 : Int32) 81 = true from rfl, ck_t, show Int32.toNatClampNeg 77 = 77 from rfl, gI_d, sI_n _ _ _ (show (89 : Nat) ≠ 78 by decide), ← hν0]
    refine s2.trans ?_
    show Bo_X12_rolls_23 _ _ _ _ = _
    unfold Bo_X12_rolls_23
    rw [mnw_76, bd_s, h761, if_pos (nI_le (Nat.le_refl _) (by omega)), l2, bd_s]
    refine t2.trans ?_
    show bd (D_X12_lean ν3) _ = _
    rw [l4, bd_s]
    refine u2.trans ?_
    show bd (D_X12_lean ν4) _ = _
    rw [l5, bd_s]
    simp only [lt1, gI_d]
    unfold B_X12_rolls_145
    unfold abN at hz
    by_cases h : (if 0 ≤ r5 then r5 else 0 - r5) < ν4.1 78 29
    · rw [if_pos h] at hz
      rw [if_pos h, hν5, hz]
      rfl
    · rw [if_neg h] at hz
      rw [if_neg h, hν5, hz]
      rfl
  · rw [d1, pk_un (by decide), hv4, c1, pk_us, hv1, d4, pk_un (by decide), hw4 77 (by omega), m1, pk_us, ht]
  · rw [d1, pk_un (by decide), hv4, c1, pk_un (by decide), hv1, d4, pk_un (by decide), hw4 78 (by omega), m1, pk_un (by decide), hd]
  · rw [d1, pk_us, d4, pk_us]
  · rw [d4, pk_us]; exact hz01
  · rw [d4, pk_un (by decide), hw4 78 (by omega), m1, pk_un (by decide)]
    omega
  · rw [d3, u4.2.1, t4.2.1, c3, s4.2.1, d6, u5.2.2.2, t5.2.2.2, s5.2.2.2, m4]
    exact hdr
  · rw [d4, pk_un (by decide), hw4 78 (by omega), m1, pk_un (by decide)]
  · have hb : ∀ i, i < n → HB 15840 μ4 v i := u7 7920 (t7 0 (fun i hi => ⟨0, 0, by omega, by omega, by rw [c2 _ (by omega)]; exact (s7 i hi).1, by rw [c2 _ (by omega)]; exact (s7 i hi).2⟩))
    obtain ⟨x1, q1, q2⟩ := gR_b (j := 6) (v := v) (μ := μ5) (T := 15840) (n := n) (fun k hk => by
      obtain ⟨t1, t2, a1, a2, a3, a4⟩ := hb k hk
      exact ⟨t1, a1, by rw [d2 _ (by omega)]; exact a3⟩)
    obtain ⟨x2, q3, q4⟩ := gR_b (j := 7) (v := v) (μ := μ5) (T := 15840) (n := n) (fun k hk => by
      obtain ⟨t1, t2, a1, a2, a3, a4⟩ := hb k hk
      exact ⟨t2, a2, by rw [d2 _ (by omega)]; exact a4⟩)
    have hnT : n * 15840 ≤ 63360 := by omega
    exact ⟨x1, x2, by omega, by omega, by rw [hG5.1, q2], by rw [hG5.2, q4]⟩
