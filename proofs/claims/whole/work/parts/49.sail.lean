/-! days at sea -/
theorem wb_tb (n : Nat) : (lN n).toBitVec = BitVec.ofNat 64 n := rfl
theorem wb_inj {a b : Int64} (h : a.toBitVec = b.toBitVec) : a = b := Int64.toBitVec_inj.mp h
theorem wb_tn {n : Nat} (h : n < 2 ^ 64) : (lN n).toBitVec.toNat = n := by rw [wb_tb, BitVec.toNat_ofNat, Nat.mod_eq_of_lt h]
theorem wb_of (x : Int64) : ∃ n, n < 2 ^ 64 ∧ x = lN n := ⟨x.toBitVec.toNat, x.toBitVec.isLt, wb_inj (by rw [wb_tb]; simp)⟩
theorem wb_cu : ∀ k, k < 64 → ((nI k).toInt64.toUInt64 &&& Int64.toUInt64 63) = UInt64.ofNat k := by decide +kernel
theorem wb_shr {n k : Nat} (hn : n < 2 ^ 64) (hk : k < 64) : ((lN n).toUInt64 >>> ((nI k).toInt64.toUInt64 &&& Int64.toUInt64 63)).toInt64 = lN (n / 2 ^ k) := by
  rw [wb_cu k hk]
  apply wb_inj
  apply BitVec.eq_of_toNat_eq
  show ((lN n).toUInt64 >>> UInt64.ofNat k).toNat = (BitVec.ofNat 64 _).toNat
  have h1 : (UInt64.ofNat k).toNat = k := by
    show (BitVec.ofNat 64 k).toNat = k
    rw [BitVec.toNat_ofNat, Nat.mod_eq_of_lt (by omega)]
  have h2 : (lN n).toUInt64.toNat = n := wb_tn hn
  rw [UInt64.toNat_shiftRight, h1, h2, Nat.mod_eq_of_lt hk, Nat.shiftRight_eq_div_pow, BitVec.toNat_ofNat, Nat.mod_eq_of_lt (Nat.lt_of_le_of_lt (Nat.div_le_self _ _) hn)]
def drN (z : Int64) : Int32 := Int64.toInt32 (((Int64.toUInt64 z >>> ((Int32.toInt64 (33 : Int32)).toUInt64 &&& Int64.toUInt64 63)).toInt64) - ((Int64.toUInt64 z >>> ((Int32.toInt64 (33 : Int32)).toUInt64 &&& Int64.toUInt64 63)).toInt64) / (6 : Int64) * (6 : Int64))
theorem drN_b (z : Int64) : 0 ≤ (drN z).toInt ∧ (drN z).toInt ≤ 5 := by
  obtain ⟨n, hn, rfl⟩ := wb_of z
  unfold drN
  have h1 : n / 2 ^ 33 < 2 ^ 31 := by
    rw [Nat.div_lt_iff_lt_mul (by decide)]
    omega
  rw [show (33 : Int32) = nI 33 from rfl, wb_shr hn (by decide), show (6 : Int64) = lN 6 from rfl, pk_lRem (by omega) (by decide) (by decide), lN_i, nI_toInt (by omega)]
  omega
def nxN (z : Int64) : Int64 := (z * (6364136223846793005 : Int64)) + (1442695040888963407 : Int64)
theorem cdr_e {μ : gs_M} {v : Nat} : D_X10_drawOfSix v μ = some (drN (nxN (μ.2 v 5)), sL μ v 5 (nxN (μ.2 v 5))) := by
  unfold D_X10_drawOfSix drN nxN
  simp only [lt1, gL_d, sL_s, pk_uLs]
theorem mdr_e {ν : gs_M} : D_X12_draw ν = some (drN (nxN (ν.2 78 33)), sL ν 78 33 (nxN (ν.2 78 33))) := by
  unfold D_X12_draw drN nxN
  simp only [lt1, gL_d, sL_s, pk_uLs]
theorem HF.go4 {f f' w w' p : Nat → Int32} {k c o : Nat} (hk : k < 4) (h : HF f w p k c o) (hf : ∀ j, j ≠ 4 → f' j = f j) (hw : ∀ j, 7 * k ≤ j → j < 7 * k + 7 → j ≠ 7 * k + 5 → w' j = w j) (h4 : f' 4 = w' (7 * k + 5)) (h4b : 0 ≤ (f' 4).toInt ∧ (f' 4).toInt ≤ 30) : HF f' w' p k c o := by
  unfold HF at *
  rw [hf 1 (by decide), hf 2 (by decide), hf 3 (by decide), hf 5 (by decide), hf 8 (by decide), hf 9 (by decide), hf 10 (by decide), hf 11 (by decide), hf 12 (by decide), hf 13 (by decide)]
  rw [hw (7 * k) (by omega) (by omega) (by omega), hw (7 * k + 1) (by omega) (by omega) (by omega), hw (7 * k + 2) (by omega) (by omega) (by omega), hw (7 * k + 3) (by omega) (by omega) (by omega), hw (7 * k + 4) (by omega) (by omega) (by omega), hw (7 * k + 6) (by omega) (by omega) (by omega)]
  obtain ⟨h1, h2, h3, h4', h5, h6, h7, h8, h9, h10, h11, h12, h13, h14, h15, h16, h17⟩ := h
  exact ⟨h1, h2, h3, h4', h5, h6, h7, h8, h9, h4, h11, h12, h13, h14, h15, h4b, h17⟩
theorem set_loop {v st n B : Nat} {sea dd x3 : Int32} {q2 : Nat → Int32 → Int32 → Int32 → gs_M → Option (gs_M)} :
    ∀ (m k fu fu2 : Nat) (μ ν : gs_M), k + m = n → VC μ v (ν.1 89) (ν.1 83) st n B →
    ∃ (μ' ν' : gs_M), L_X10_sail_17 q2 (fu + m) v sea dd x3 (nI k) μ = L_X10_sail_17 q2 fu v sea dd x3 (nI n) μ' ∧ L_X12_days_2 (fu2 + m) sea (nI k) ν = L_X12_days_2 fu2 sea (nI n) ν' ∧ VC μ' v (ν'.1 89) (ν'.1 83) st n B ∧ FH v μ μ' ∧ FS ν ν' := by
  intro m
  induction m with
  | zero =>
    intro k fu fu2 μ ν hk hV
    obtain rfl : k = n := by omega
    exact ⟨μ, ν, rfl, rfl, hV, FH.refl, FS.refl⟩
  | succ m ih =>
    intro k fu fu2 μ ν hk hV
    have hV2 := hV
    obtain ⟨n1, n4, hs, h76, hl, hH⟩ := hV2
    have hk4 : k < 4 := by omega
    obtain ⟨a, ha⟩ : ∃ a, a = v + 2 + 2 * k := ⟨_, rfl⟩
    obtain ⟨⟨c, o, ho, hFk, hUk⟩, hbk2⟩ := hH k (by omega)
    rw [← ha] at hFk hUk
    have hFk2 := hFk
    obtain ⟨hc2, hc12, ho6, f1, w0, w2, f8, f2, f3, f4, f5, ⟨p9, p10, p11, p12, p13⟩, b8, b2, b3, b4, b9, b10, b13⟩ := hFk2
    have cl : ∀ μ1, D_X1_settleOneDay a μ = some μ1 → L_X10_sail_17 q2 (fu + (m + 1)) v sea dd x3 (nI k) μ = L_X10_sail_17 q2 (fu + m) v sea dd x3 (nI (k + 1)) μ1 := by
      intro μ1 h
      show Bo_X10_sail_17 _ _ _ _ _ _ _ _ = _
      unfold Bo_X10_sail_17
      rw [gI_d, hs, if_neg (nI_ge (show k < n by omega) (by omega)), inb_n (show k < 4 by omega) (by omega), ck_t, nI_clamp (show k < 2 ^ 31 by omega), ← ha, h, bd0_s, nI_1]
      rfl
    have mdl : L_X12_days_2 (fu2 + (m + 1)) sea (nI k) ν = if μ.1 a 10 ≤ ν.1 89 (7 * k + 5) then L_X12_days_2 (fu2 + m) sea (nI (k + 1)) ν else L_X12_days_2 (fu2 + m) sea (nI (k + 1)) (sI ν 89 (7 * k + 5) (ν.1 89 (7 * k + 5) + 1)) := by
      show Bo_X12_days_2 _ _ _ _ = _
      unfold Bo_X12_days_2
      rw [mnw_76, bd_s, h76, if_neg (nI_ge (show k < n by omega) (by omega)), mof_5 hk4, bd_s, mof_2 hk4, bd_s, w2, mpt_1 (show o < 7 by omega), bd_s, ← p10]
      rw [show (7 : Int32) * nI k + 5 = nI (7 * k + 5) by rw [show (7 : Int32) = nI 7 from rfl, pk_mul, show (5 : Int32) = nI 5 from rfl, nI_add]]
      simp only [inb_n (show 7 * k + 5 < 81 by omega) (by omega), ck_t, nI_clamp (show 7 * k + 5 < 2 ^ 31 by omega), lt1, gI_d, nI_1]
      rfl
    by_cases hq : μ.1 a 10 ≤ μ.1 a 4
    · rw [if_pos (by rw [← f4]; exact hq)] at mdl
      obtain ⟨μ', ν', t1, t2, t3⟩ := ih (k + 1) fu fu2 μ ν (by omega) hV
      refine ⟨μ', ν', (cl μ ?_).trans t1, mdl.trans t2, t3⟩
      unfold D_X1_settleOneDay
      rw [gI_d, gI_d, if_pos hq]
    · rw [if_neg (by rw [← f4]; exact hq)] at mdl
      obtain ⟨μ1, hμ1⟩ : ∃ μ1, μ1 = sI μ a 4 (μ.1 a 4 + 1) := ⟨_, rfl⟩
      obtain ⟨ν1, hν1⟩ : ∃ ν1, ν1 = sI ν 89 (7 * k + 5) (ν.1 89 (7 * k + 5) + 1) := ⟨_, rfl⟩
      rw [← hν1] at mdl
      have e1 : ∀ b, b ≠ a → μ1.1 b = μ.1 b := fun b h => by rw [hμ1, sI_n _ _ _ h]
      have e2 : μ1.1 a = upd (μ.1 a) 4 (μ.1 a 4 + 1) := by rw [hμ1, sI_s]
      have e3 : μ1.2 = μ.2 := by rw [hμ1]; rfl
      have e4 : ∀ b, b ≠ 89 → ν1.1 b = ν.1 b := fun b h => by rw [hν1, sI_n _ _ _ h]
      have e5 : ν1.1 89 = upd (ν.1 89) (7 * k + 5) (ν.1 89 (7 * k + 5) + 1) := by rw [hν1, sI_s]
      have e6 : ν1.2 = ν.2 := by rw [hν1]; rfl
      have hxx : (μ.1 a 4 + 1).toInt = (μ.1 a 4).toInt + 1 := ti_add (a := μ.1 a 4) (b := 1) (by show _ ≤ _ + (1 : Int); omega) (by show _ + (1 : Int) ≤ _; omega)
      have hq2 : (μ.1 a 4).toInt < (μ.1 a 10).toInt := by rw [ti_le] at hq; omega
      have hV1 : VC μ1 v (ν1.1 89) (ν1.1 83) st n B := by
        refine ⟨n1, n4, by rw [e1 v (by omega)]; exact hs, by rw [e5, pk_un (by omega)]; exact h76, by rw [e5, pk_un (by omega)]; exact hl, fun i hi => ?_⟩
        rw [e4 83 (by decide)]
        by_cases q : i = k
        · subst q
          refine ⟨⟨c, o, ho, ?_, ?_⟩, ?_⟩
          · rw [← ha, e2, e5]
            refine hFk.go4 hk4 (fun j j4 => by rw [pk_un j4]) (fun j _ hj hj2 => by rw [pk_un hj2]) ?_ ?_
            · rw [pk_us, pk_us, f4]
            · rw [pk_us, hxx]; omega
          · rw [← ha]
            exact hUk.go (fun j _ => by rw [e1 _ (by omega)]) (fun j hj => by rw [e5, pk_un (by omega)])
          · rw [e5, pk_un (by omega)]
            exact hbk2
        · obtain ⟨⟨c2, o2, ho2, hF2, hU2⟩, hb2⟩ := hH i hi
          refine ⟨⟨c2, o2, ho2, ?_, ?_⟩, ?_⟩
          · refine hF2.go4 (by omega) (fun j _ => by rw [e1 _ (by omega)]) (fun j hj0 hj _ => ?_) ?_ ?_
            · rw [e5, pk_un (by omega)]
            · rw [e1 _ (by omega), e5, pk_un (by omega)]
              obtain ⟨_, _, _, _, _, _, _, _, _, f4', _⟩ := hF2
              exact f4'
            · rw [e1 _ (by omega)]
              obtain ⟨_, _, _, _, _, _, _, _, _, _, _, _, _, _, _, b4', _⟩ := hF2
              exact b4'
          · exact hU2.go (fun j _ => by rw [e1 _ (by omega)]) (fun j hj => by rw [e5, pk_un (by omega)])
          · rw [e5, pk_un (by omega)]
            exact hb2
      obtain ⟨μ', ν', t1, t2, t3, t4, t5⟩ := ih (k + 1) fu fu2 μ1 ν1 (by omega) hV1
      refine ⟨μ', ν', (cl μ1 ?_).trans t1, mdl.trans t2, t3, FH.trans ⟨fun b hb => e1 b (by omega), e3, fun i hi => by
        by_cases q : i = k
        · subst q; rw [← ha, e2, pk_un (by decide)]
        · rw [e1 _ (by omega)]⟩ t4, FS.trans ⟨fun b _ h => e4 b h, fun j _ _ => by rw [e4 78 (by decide)], fun j hj => by rw [e5, pk_un (by omega)], e6⟩ t5⟩
      unfold D_X1_settleOneDay
      rw [gI_d, gI_d, if_neg hq]
      simp only [lt1, gI_d, ← hμ1]
theorem VR.mono {μ : gs_M} {v st st' n B B' : Nat} {w p : Nat → Int32} {d : Int64} (h : VR μ v w p d st n B) (hB : B ≤ B') (hst : st ≤ st') : VR μ v w p d st' n B' := by
  obtain ⟨h1, h2, h3, h4, h5, h6, h7⟩ := h
  exact ⟨h1.mono hB hst, h2, h3, h4, h5, ⟨h6.1, by omega⟩, h7⟩
/-- the rolls of a day -/
theorem rol_loop {v st n : Nat} {sea dd x3 : Int32} {q2 : Nat → Int32 → Int32 → Int32 → gs_M → Option (gs_M)} (hv : 26 ≤ v) (hsea : 0 ≤ sea.toInt ∧ sea.toInt ≤ 30) :
    ∀ (m k fu fu2 B : Nat) (μ ν : gs_M), k + m = 4 → m < fu → m < fu2 → B + 40 * m < 1000000000 → VR μ v (ν.1 89) (ν.1 83) (ν.2 78 33) st n B → SS μ ν →
    ∃ (μ' ν' : gs_M), L_X10_sail_45 q2 fu v sea dd x3 (nI k) μ = B_X10_sail_75 q2 v sea dd x3 μ' ∧ L_X12_days_55 fu2 sea (nI k) ν = B_X12_days_85 ν' ∧ VR μ' v (ν'.1 89) (ν'.1 83) (ν'.2 78 33) st n (B + 40 * m) ∧ FW v μ μ' ∧ FR ν ν' ∧ ν'.1 89 78 = ν.1 89 78 := by
  intro m
  induction m with
  | zero =>
    intro k fu fu2 B μ ν hk hf hf2 hB hV hS
    obtain ⟨fu, rfl⟩ : ∃ m, fu = m + 1 := ⟨fu - 1, by omega⟩
    obtain ⟨fu2, rfl⟩ : ∃ m, fu2 = m + 1 := ⟨fu2 - 1, by omega⟩
    obtain rfl : k = 4 := by omega
    refine ⟨μ, ν, ?_, ?_, hV, FW.refl, FR.refl, rfl⟩
    · show Bo_X10_sail_45 _ _ _ _ _ _ _ _ = _
      unfold Bo_X10_sail_45
      exact if_pos (by decide)
    · show Bo_X12_days_55 _ _ _ _ = _
      unfold Bo_X12_days_55
      exact if_pos (by decide)
  | succ m ih =>
    intro k fu fu2 B μ ν hk hf hf2 hB hV hS
    obtain ⟨fu, rfl⟩ : ∃ m, fu = m + 1 := ⟨fu - 1, by omega⟩
    obtain ⟨fu2, rfl⟩ : ∃ m, fu2 = m + 1 := ⟨fu2 - 1, by omega⟩
    have hlt : ¬ (4 : Int32) ≤ nI k := nI_ge (a := k) (b := 4) (by omega) (by omega)
    have hV2 := hV
    obtain ⟨hC, ht, hd, hlo, hlo2, hdb, hdr⟩ := hV2
    by_cases hz : ν.1 89 79 = 0
    · obtain ⟨μ1, hμ1⟩ : ∃ μ1, μ1 = sL μ v 5 (nxN (μ.2 v 5)) := ⟨_, rfl⟩
      obtain ⟨ν1, hν1⟩ : ∃ ν1, ν1 = sL ν 78 33 (nxN (ν.2 78 33)) := ⟨_, rfl⟩
      have e1 : μ1.1 = μ.1 := by rw [hμ1]; rfl
      have e2 : ν1.1 = ν.1 := by rw [hν1]; rfl
      have e3 : μ1.2 v 5 = nxN (μ.2 v 5) := by rw [hμ1, sL_s, pk_uLs]
      have e4 : ν1.2 78 33 = nxN (ν.2 78 33) := by rw [hν1, sL_s, pk_uLs]
      have fw : FW v μ μ1 := ⟨fun b _ => by rw [e1], fun b hb => by rw [hμ1, sL_n _ _ _ hb]⟩
      have fr : FR ν ν1 := ⟨fun b _ _ => by rw [e2], fun b _ _ => by rw [e2], fun b hb => by rw [hν1, sL_n _ _ _ hb], fun j hj => by rw [hν1, sL_s, pk_uLn hj]⟩
      have hV1 : VR μ1 v (ν1.1 89) (ν1.1 83) (ν1.2 78 33) st n B := by
        unfold VR at hV ⊢
        rw [e2, e1, e3, e4, hdr]
        exact ⟨hC.go (by rw [e1]) (fun b _ _ => by rw [e1]) (fun _ _ => rfl) rfl, ht, hd, hlo, hlo2, hdb, rfl⟩
      have db := drN_b (nxN (ν.2 78 33))
      have hx : (sea + drN (nxN (ν.2 78 33))).toInt = sea.toInt + (drN (nxN (ν.2 78 33))).toInt := ti_add (by omega) (by omega)
      obtain ⟨μ2, ν2, s1, s2, s3, s4, s5, s6, s7, -⟩ := roll_e (x := sea + drN (nxN (ν.2 78 33))) hV1 (hS.w hv fw fr) hv (by rw [hx]; omega) (by omega)
      obtain ⟨μ', ν', t1, t2, t3, t4, t5, t6⟩ := ih (k + 1) fu fu2 (B + 40) μ2 ν2 (by omega) (by omega) (by omega) (by omega) s4 ((hS.w hv fw fr).w hv s5 s6)
      refine ⟨μ', ν', ?_, ?_, t3.mono (by omega) (Nat.le_refl _), (fw.trans s5).trans t4, (fr.trans s6).trans t5, by rw [t6, s7, e2]⟩
      · refine Eq.trans ?_ t1
        show Bo_X10_sail_45 _ _ _ _ _ _ _ _ = _
        unfold Bo_X10_sail_45
        rw [if_neg hlt, gI_d, hlo, if_pos hz, cdr_e, bd_s, hdr]
        rw [hdr] at hμ1
        rw [← hμ1, s1, bd_s, nI_1]
      · refine Eq.trans ?_ t2
        show Bo_X12_days_55 _ _ _ _ = _
        unfold Bo_X12_days_55
        rw [if_neg hlt, mnw_79, bd_s, if_pos hz, mdr_e, bd_s, ← hν1, s2, bd0_s, nI_1]
    · refine ⟨μ, ν, ?_, ?_, hV.mono (by omega) (Nat.le_refl _), FW.refl, FR.refl, rfl⟩
      · show Bo_X10_sail_45 _ _ _ _ _ _ _ _ = _
        unfold Bo_X10_sail_45
        rw [if_neg hlt, gI_d, hlo, if_neg hz]
      · show Bo_X12_days_55 _ _ _ _ = _
        unfold Bo_X12_days_55
        rw [if_neg hlt, mnw_79, bd_s, if_neg hz]
/-- A DAY -/
theorem day_e {μ ν : gs_M} {v st n B : Nat} {sea dd x3 : Int32} {q2 : Nat → Int32 → Int32 → Int32 → gs_M → Option (gs_M)} (hv : 26 ≤ v) (hsea : 0 ≤ sea.toInt ∧ sea.toInt ≤ 30) (hB : B + 160 < 1000000000) (hV : VR μ v (ν.1 89) (ν.1 83) (ν.2 78 33) st n B) (hS : SS μ ν) :
    ∃ (μ' ν' : gs_M), L_X10_sail_17 q2 4096 v sea dd x3 0 μ = q2 v sea dd (x3 + 1) μ' ∧ D_X12_days sea ν = some ν' ∧ VR μ' v (ν'.1 89) (ν'.1 83) (ν'.2 78 33) st n (B + 160) ∧ FW v μ μ' ∧ FR ν ν' := by
  have hV2 := hV
  obtain ⟨hC, ht, hd, hlo, hlo2, hdb, hdr⟩ := hV2
  have n4 := hC.2.1
  obtain ⟨f1, hf1⟩ : ∃ f, 4096 = (f + 1) + n := ⟨4095 - n, by omega⟩
  obtain ⟨μ1, ν1, s1, s2, s3, s4, s5⟩ := set_loop (q2 := q2) (sea := sea) (dd := dd) (x3 := x3) n 0 (f1 + 1) (f1 + 1) μ ν (by omega) hC
  rw [← hf1] at s1 s2
  have hV1 : VR μ1 v (ν1.1 89) (ν1.1 83) (ν1.2 78 33) st n B := by
    refine ⟨s3, ?_, ?_, ?_, ?_, ?_, ?_⟩
    · rw [s4.1 v (by omega), s5.2.2.1 _ (by omega)]; exact ht
    · rw [s4.1 v (by omega), s5.2.2.1 _ (by omega)]; exact hd
    · rw [s4.1 v (by omega), s5.2.2.1 _ (by omega)]; exact hlo
    · rw [s5.2.2.1 _ (by omega)]; exact hlo2
    · rw [s5.2.2.1 _ (by omega)]; exact hdb
    · rw [s4.2.1, s5.2.2.2]; exact hdr
  obtain ⟨μ2, ν2, t1, t2, t3, t4, t5, t6⟩ := rol_loop (q2 := q2) (dd := dd) (x3 := x3) hv hsea 4 0 4096 4096 B μ1 ν1 (by omega) (by omega) (by omega) (by omega) hV1 (hS.w hv s4.w s5.r)
  obtain ⟨hC2, ht2, hd2, hl2, hl22, hdb2, hdr2⟩ := t3
  obtain ⟨μ3, hμ3⟩ : ∃ μ3, μ3 = sI μ2 v 3 (μ2.1 v 3 + 1) := ⟨_, rfl⟩
  obtain ⟨ν3, hν3⟩ : ∃ ν3, ν3 = sI ν2 89 78 (ν2.1 89 78 + 1) := ⟨_, rfl⟩
  have c1 : μ3.1 v = upd (μ2.1 v) 3 (μ2.1 v 3 + 1) := by rw [hμ3, sI_s]
  have c2 : ∀ b, b ≠ v → μ3.1 b = μ2.1 b := fun b h => by rw [hμ3, sI_n _ _ _ h]
  have c3 : μ3.2 = μ2.2 := by rw [hμ3]; rfl
  have d4 : ν3.1 89 = upd (ν2.1 89) 78 (ν2.1 89 78 + 1) := by rw [hν3, sI_s]
  have d5 : ∀ b, b ≠ 89 → ν3.1 b = ν2.1 b := fun b h => by rw [hν3, sI_n _ _ _ h]
  have d6 : ν3.2 = ν2.2 := by rw [hν3]; rfl
  have hday : ν2.1 89 78 = ν.1 89 78 := by rw [t6, s5.2.2.1 _ (by omega)]
  have hday2 : (ν2.1 89 78 + 1).toInt = (ν2.1 89 78).toInt + 1 := ti_add (b := 1) (by show _ ≤ _ + (1 : Int); rw [hday]; omega) (by show _ + (1 : Int) ≤ _; rw [hday]; omega)
  refine ⟨μ3, ν3, ?_, ?_, ⟨?_, ?_, ?_, ?_, ?_, ?_, ?_⟩, (s4.w.trans t4).trans ⟨fun b hb => c2 b (by omega), fun b _ => by rw [c3]⟩, (s5.r.trans t5).trans ⟨fun b _ h => d5 b h, fun j _ _ => by rw [d5 78 (by decide)], fun _ _ => by rw [d6], fun _ _ => by rw [d6]⟩⟩
  · refine s1.trans ?_
    show Bo_X10_sail_17 _ _ _ _ _ _ _ _ = _
    unfold Bo_X10_sail_17
    rw [gI_d, s3.2.2.1, if_pos (nI_le (Nat.le_refl _) (by omega))]
    refine t1.trans ?_
    unfold B_X10_sail_75
    simp only [lt1, gI_d, ← hμ3]
  · unfold D_X12_days
    refine s2.trans ?_
    show Bo_X12_days_2 _ _ _ _ = _
    unfold Bo_X12_days_2
    rw [mnw_76, bd_s, s3.2.2.2.1, if_pos (nI_le (Nat.le_refl _) (by omega))]
    refine t2.trans ?_
    unfold B_X12_days_85
    simp only [show inb (78 : Int32) 81 = true from rfl, ck_t, show Int32.toNatClampNeg 78 = 78 from rfl, lt1, gI_d, ← hν3]
  · rw [d5 83 (by decide)]
    exact hC2.go (by rw [c1, pk_un (by decide)]) (fun b h1 h2 => c2 b (by omega)) (fun j hj => by rw [d4, pk_un (by omega)]) (by rw [d4, pk_un (by decide)])
  · rw [c1, pk_un (by decide), d4, pk_un (by decide)]; exact ht2
  · rw [c1, pk_us, d4, pk_us, hd2]
  · rw [c1, pk_un (by decide), d4, pk_un (by decide)]; exact hl2
  · rw [d4, pk_un (by decide)]; exact hl22
  · rw [d4, pk_us, hday2, hday]; omega
  · rw [c3, d6]; exact hdr2
/-- A VOYAGE -/
theorem voy_loop {v st n D : Nat} {sea : Int32} (hv : 26 ≤ v) (hsea : 0 ≤ sea.toInt ∧ sea.toInt ≤ 30) (hD : D < 1000) :
    ∀ (m k fu fu2 B : Nat) (μ ν : gs_M), k + m = D → m < fu → m < fu2 → B + 160 * m < 1000000000 → VR μ v (ν.1 89) (ν.1 83) (ν.2 78 33) st n B → SS μ ν →
    ∃ (μ' ν' : gs_M), L_X10_sail_2 fu v sea (nI D) (nI k) μ = some μ' ∧ L_X12_voyage_2 fu2 sea (nI D) (nI k) ν = some ν' ∧ VR μ' v (ν'.1 89) (ν'.1 83) (ν'.2 78 33) st n (B + 160 * m) ∧ FW v μ μ' ∧ FR ν ν' := by
  intro m
  induction m with
  | zero =>
    intro k fu fu2 B μ ν hk hf hf2 hB hV hS
    obtain ⟨fu, rfl⟩ : ∃ m, fu = m + 1 := ⟨fu - 1, by omega⟩
    obtain ⟨fu2, rfl⟩ : ∃ m, fu2 = m + 1 := ⟨fu2 - 1, by omega⟩
    refine ⟨μ, ν, ?_, ?_, hV, FW.refl, FR.refl⟩
    · show Bo_X10_sail_2 _ _ _ _ _ _ = _
      unfold Bo_X10_sail_2
      rw [if_pos (nI_le (by omega) (by omega))]
    · show Bo_X12_voyage_2 _ _ _ _ _ = _
      unfold Bo_X12_voyage_2
      rw [if_pos (nI_le (by omega) (by omega))]
  | succ m ih =>
    intro k fu fu2 B μ ν hk hf hf2 hB hV hS
    obtain ⟨fu, rfl⟩ : ∃ m, fu = m + 1 := ⟨fu - 1, by omega⟩
    obtain ⟨fu2, rfl⟩ : ∃ m, fu2 = m + 1 := ⟨fu2 - 1, by omega⟩
    have hlt : ¬ nI D ≤ nI k := nI_ge (by omega) (by omega)
    have hlo := hV.2.2.2.1
    by_cases hz : ν.1 89 79 = 0
    · obtain ⟨μ1, ν1, s1, s2, s3, s4, s5⟩ := day_e (q2 := L_X10_sail_2 fu) (dd := nI D) (x3 := nI k) hv hsea (by omega) hV hS
      obtain ⟨μ', ν', t1, t2, t3, t4, t5⟩ := ih (k + 1) fu fu2 (B + 160) μ1 ν1 (by omega) (by omega) (by omega) (by omega) s3 (hS.w hv s4 s5)
      refine ⟨μ', ν', ?_, ?_, t3.mono (by omega) (Nat.le_refl _), s4.trans t4, s5.trans t5⟩
      · show Bo_X10_sail_2 _ _ _ _ _ _ = _
        unfold Bo_X10_sail_2
        rw [if_neg hlt, gI_d, hlo, if_pos hz, s1, nI_1]
        exact t1
      · show Bo_X12_voyage_2 _ _ _ _ _ = _
        unfold Bo_X12_voyage_2
        rw [if_neg hlt, mnw_79, bd_s, if_pos hz, s2, bd0_s, nI_1]
        exact t2
    · refine ⟨μ, ν, ?_, ?_, hV.mono (by omega) (Nat.le_refl _), FW.refl, FR.refl⟩
      · show Bo_X10_sail_2 _ _ _ _ _ _ = _
        unfold Bo_X10_sail_2
        rw [if_neg hlt, gI_d, hlo, if_neg hz]
      · show Bo_X12_voyage_2 _ _ _ _ _ = _
        unfold Bo_X12_voyage_2
        rw [if_neg hlt, mnw_79, bd_s, if_neg hz]
theorem voy_e {μ ν : gs_M} {v st n D B : Nat} {sea : Int32} (hv : 26 ≤ v) (hsea : 0 ≤ sea.toInt ∧ sea.toInt ≤ 30) (hD : D < 1000) (hB : B < 1000000) (hV : VR μ v (ν.1 89) (ν.1 83) (ν.2 78 33) st n B) (hS : SS μ ν) :
    ∃ (μ' ν' : gs_M), D_X10_sail v sea (nI D) μ = some μ' ∧ D_X12_voyage sea (nI D) ν = some ν' ∧ VR μ' v (ν'.1 89) (ν'.1 83) (ν'.2 78 33) st n (B + 160 * D) ∧ FW v μ μ' ∧ FR ν ν' :=
  voy_loop hv hsea hD D 0 4096 4096 B μ ν (by omega) (by omega) (by omega) (by omega) hV hS
/-- one day, and she isn't lost -/
theorem day1_e {μ ν : gs_M} {v st n B : Nat} {sea : Int32} (hv : 26 ≤ v) (hsea : 0 ≤ sea.toInt ∧ sea.toInt ≤ 30) (hB : B < 1000000) (hV : VR μ v (ν.1 89) (ν.1 83) (ν.2 78 33) st n B) (hS : SS μ ν) (hz : ν.1 89 79 = 0) :
    ∃ (μ' ν' : gs_M), D_X10_sail v sea 1 μ = some μ' ∧ D_X12_days sea ν = some ν' ∧ VR μ' v (ν'.1 89) (ν'.1 83) (ν'.2 78 33) st n (B + 160) ∧ FW v μ μ' ∧ FR ν ν' := by
  obtain ⟨f, hf⟩ : ∃ f, 4096 = f + 1 + 1 := ⟨4094, rfl⟩
  obtain ⟨μ1, ν1, s1, s2, s3, s4, s5⟩ := day_e (q2 := L_X10_sail_2 (f + 1)) (dd := 1) (x3 := 0) hv hsea (by omega) hV hS
  refine ⟨μ1, ν1, ?_, s2, s3, s4, s5⟩
  have hlo := hV.2.2.2.1
  unfold D_X10_sail
  rw [hf]
  show Bo_X10_sail_2 _ _ _ _ _ _ = _
  unfold Bo_X10_sail_2
  rw [if_neg (by decide), gI_d, hlo, if_pos hz, s1]
  show Bo_X10_sail_2 _ _ _ _ _ _ = _
  unfold Bo_X10_sail_2
  exact if_pos (by decide)
theorem day0_e {μ : gs_M} {v : Nat} {sea : Int32} (hz : ¬ μ.1 v 4 = 0) : D_X10_sail v sea 1 μ = some μ := by
  obtain ⟨f, hf⟩ : ∃ f, 4096 = f + 1 := ⟨4095, rfl⟩
  unfold D_X10_sail
  rw [hf]
  show Bo_X10_sail_2 _ _ _ _ _ _ = _
  unfold Bo_X10_sail_2
  rw [if_neg (by decide), gI_d, if_neg hz]
