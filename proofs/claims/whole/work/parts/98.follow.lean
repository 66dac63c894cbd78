/-! a rule is followed -/
def FIo (r R st n : Nat) (μ ν : gs_M) (B : Nat) : Prop := (r < R ∧ R ≤ 4 ∧ μ.1 16 1 = nI R ∧ rO μ ν r) ∧ VR μ 56 (ν.1 89) (ν.1 83) (ν.2 78 33) st n B ∧ SS μ ν ∧ (μ.1 76 0 = ν.1 78 49 ∧ μ.1 76 1 = ν.1 78 50 ∧ μ.1 76 2 = ν.1 78 51)
theorem fdy_l {r R st n D : Nat} {sea x4 x5 x6 : Int32} {q35 : Int32 → Int32 → Int32 → Int32 → Int32 → Int32 → gs_M → Option (gs_M)} {q24 : Int32 → Int32 → Int32 → Int32 → Int32 → Int32 → gs_M → Option (gs_M)} (hsea : 0 ≤ sea.toInt ∧ sea.toInt ≤ 30) (hD : D ≤ 9) : ∀ (i d fu fu2 B : Nat) (μ ν : gs_M), d + i = D → i < fu → i < fu2 → B + 160 * i ≤ 900000 → FIo r R st n μ ν B → ∃ (μ' ν' : gs_M) (B' : Nat), L_X11_followRule_75 q35 fu (nI r) sea (nI D) x4 x5 x6 (nI d) μ = B_X11_followRule_112 q35 (nI r) sea (nI D) x4 x5 x6 μ' ∧ L_X12_layFollowed_51 q24 fu2 (nI r) sea (nI D) x4 x5 x6 (nI d) ν = B_X12_layFollowed_83 q24 (nI r) sea (nI D) x4 x5 x6 ν' ∧ FIo r R st n μ' ν' B' ∧ CFo μ μ' ∧ MFo ν ν' := by
  intro i
  induction i with
  | zero =>
    intro d fu fu2 B μ ν hd hf hf2 hB hF
    obtain ⟨fu, rfl⟩ : ∃ m, fu = m + 1 := ⟨fu - 1, by omega⟩
    obtain ⟨fu2, rfl⟩ : ∃ m, fu2 = m + 1 := ⟨fu2 - 1, by omega⟩
    have hle : nI D ≤ nI d := nI_le (by omega) (by omega)
    refine ⟨μ, ν, B, ?_, ?_, hF, CFo.refl, MFo.refl⟩
    · show Bo_X11_followRule_75 _ _ _ _ _ _ _ _ _ _ = _
      unfold Bo_X11_followRule_75
      rw [if_pos hle]
    · show Bo_X12_layFollowed_51 _ _ _ _ _ _ _ _ _ _ = _
      unfold Bo_X12_layFollowed_51
      rw [if_pos hle]
  | succ i ih =>
    intro d fu fu2 B μ ν hd hf hf2 hB hF
    obtain ⟨fu, rfl⟩ : ∃ m, fu = m + 1 := ⟨fu - 1, by omega⟩
    obtain ⟨fu2, rfl⟩ : ∃ m, fu2 = m + 1 := ⟨fu2 - 1, by omega⟩
    have hle : ¬ nI D ≤ nI d := nI_ge (by omega) (by omega)
    have hF' := hF
    obtain ⟨⟨hr, hR4, h16, hO⟩, hV, hS, p0, p1, p2⟩ := hF'
    have hlo := hV.2.2.2.1
    rcases hV.2.2.2.2.1 with hz | hz
    · obtain ⟨μ1, ν1, t1, t2, t3, t4, t5, t6, t7, t8, t9, t10, t11⟩ := tn_e hr hR4 h16 hO hV hS (by omega) hsea p2
      obtain ⟨μ2, ν2, u1, u2, u3, u4, u5⟩ := day1_e (by decide) hsea (show B < 1000000 by omega) t3 t4 (by rw [t11]; exact hz)
      have c2 : CFo μ μ2 := t9.trans u4.cf
      have m2 : MFo ν ν2 := t10.trans u5.mf
      have h762 : μ2.1 76 = μ1.1 76 := u4.1 76 (by omega)
      obtain ⟨μ', ν', B', v1, v2, v3, v4, v5⟩ := ih (d + 1) fu fu2 (B + 160) μ2 ν2 (by omega) (by omega) (by omega) (by omega) ⟨⟨hr, hR4, (c2.2.1 1 (by decide)).trans h16, hO.cm (by omega) c2 m2⟩, u3, t4.w (by decide) u4 u5, by rw [h762, t6 0 (by decide), u5.2.1 49 (by decide) (by decide), t7]; exact p0, by rw [h762, t6 1 (by decide), u5.2.1 50 (by decide) (by decide), t8]; exact p1, by rw [h762, u5.2.1 51 (by decide) (by decide)]; exact t5⟩
      refine ⟨μ', ν', B', ?_, ?_, v3, c2.trans v4, m2.trans v5⟩
      · show Bo_X11_followRule_75 _ _ _ _ _ _ _ _ _ _ = _
        unfold Bo_X11_followRule_75
        rw [if_neg hle, gI_d μ 56 4, hlo, if_pos hz, t1, bd0_s, u1, bd0_s, nI_1]
        exact v1
      · show Bo_X12_layFollowed_51 _ _ _ _ _ _ _ _ _ _ = _
        unfold Bo_X12_layFollowed_51
        rw [if_neg hle, mnw_79, bd_s, if_pos hz, t2, bd0_s, u2, bd0_s, nI_1]
        exact v2
    · have hz0 : ¬ ν.1 89 79 = 0 := by rw [hz]; exact z10
      refine ⟨μ, ν, B, ?_, ?_, hF, CFo.refl, MFo.refl⟩
      · show Bo_X11_followRule_75 _ _ _ _ _ _ _ _ _ _ = _
        unfold Bo_X11_followRule_75
        rw [if_neg hle, gI_d μ 56 4, hlo, if_neg hz0]
      · show Bo_X12_layFollowed_51 _ _ _ _ _ _ _ _ _ _ = _
        unfold Bo_X12_layFollowed_51
        rw [if_neg hle, mnw_79, bd_s, if_neg hz0]
/-- she is put back, whatever else was written -/
theorem pb2_e (ν : gs_M) : ∃ ν' : gs_M, D_X12_putBack ν = some ν' ∧ (∀ b, b ≠ 89 → ν'.1 b = ν.1 b) ∧ (∀ j, j < 81 → ν'.1 89 j = ν.1 90 j) ∧ (∀ b, b ≠ 78 → ν'.2 b = ν.2 b) ∧ (∀ j, j ≠ 33 → ν'.2 78 j = ν.2 78 j) ∧ ν'.2 78 33 = ν.2 78 34 := by
  obtain ⟨ν1, t1, t2, t3, t4⟩ := cp_e (μ := ν) (a0 := 90) (a1 := 89) (by decide) ln_90 ln_89
  refine ⟨sL ν1 78 33 (ν.2 78 34), ?_, fun b hb => ?_, fun j hj => ?_, fun b hb => ?_, fun j hj => ?_, ?_⟩
  · unfold D_X12_putBack
    rw [t1, bd0_s, lt1, gL_d, t4]
  · rw [sL_I, t3 b hb]
  · rw [sL_I, t2 j hj]
  · rw [sL_n _ _ _ hb, t4]
  · rw [sL_s, pk_uLn hj, t4]
  · rw [sL_s, pk_uLs]
def MKo (ν ν' : gs_M) : Prop := (∀ b, b ≠ 78 → b ≠ 82 → b ≠ 89 → b ≠ 90 → ν'.1 b = ν.1 b) ∧ (∀ j, (j = 6 ∨ j = 7 ∨ 18 ≤ j) → j ≠ 28 → j ≠ 37 → j ≠ 38 → j ≠ 49 → j ≠ 50 → j ≠ 51 → ν'.1 78 j = ν.1 78 j) ∧ (∀ j, j < 81 → ν'.1 89 j = ν.1 89 j) ∧ (∀ b, b ≠ 78 → ν'.2 b = ν.2 b) ∧ (∀ j, j ≠ 34 → ν'.2 78 j = ν.2 78 j)
theorem MKo.refl {ν : gs_M} : MKo ν ν := ⟨fun _ _ _ _ _ => rfl, fun _ _ _ _ _ _ _ _ => rfl, fun _ _ => rfl, fun _ _ => rfl, fun _ _ => rfl⟩
theorem MKo.trans {ν0 ν1 ν2 : gs_M} (h : MKo ν0 ν1) (g : MKo ν1 ν2) : MKo ν0 ν2 := ⟨fun b b1 b2 b3 b4 => (g.1 b b1 b2 b3 b4).trans (h.1 b b1 b2 b3 b4), fun j j1 j2 j3 j4 j5 j6 j7 => (g.2.1 j j1 j2 j3 j4 j5 j6 j7).trans (h.2.1 j j1 j2 j3 j4 j5 j6 j7), fun j hj => (g.2.2.1 j hj).trans (h.2.2.1 j hj), fun b hb => (g.2.2.2.1 b hb).trans (h.2.2.2.1 b hb), fun j hj => (g.2.2.2.2 j hj).trans (h.2.2.2.2 j hj)⟩
theorem MKo.s {ν : gs_M} {j : Nat} {v : Int32} (h : j = 28 ∨ j = 49 ∨ j = 50 ∨ j = 51) : MKo ν (sI ν 78 j v) := ⟨fun b b1 b2 b3 _ => sI_n _ _ _ b1, fun i i1 i2 i3 i4 i5 i6 i7 => sI_o _ _ (by omega), fun j _ => by rw [sI_n _ _ _ (by decide)], fun _ _ => rfl, fun _ _ => rfl⟩
theorem rO.ck {μ ν μ' ν' : gs_M} {r : Nat} (hr : r < 4) (h : rO μ ν r) (hc : CFo μ μ') (hm : MKo ν ν') : rO μ' ν' r := h.go (by rw [hc.1 23 (by omega) (by omega) (by omega) (by omega) (by omega) (by omega)]) (hc.1 _ (by omega) (by omega) (by omega) (by omega) (by omega) (by omega)) (by rw [hm.1 81 (by omega) (by omega) (by omega) (by omega)]) (fun j _ => by rw [hm.1 80 (by omega) (by omega) (by omega) (by omega)])
theorem VR.ck {μ ν μ' ν' : gs_M} {st n B : Nat} (h : VR μ 26 (ν.1 89) (ν.1 83) (ν.2 78 33) st n B) (hc : CFo μ μ') (hm : MKo ν ν') : VR μ' 26 (ν'.1 89) (ν'.1 83) (ν'.2 78 33) st n B :=
  h.cm (fun b _ _ => hc.1 b (by omega) (by omega) (by omega) (by omega) (by omega) (by omega)) (hc.2.2.2 26 (by decide)) hm.2.2.1 (hm.1 83 (by decide) (by decide) (by decide) (by decide)) (hm.2.2.2.2 33 (by decide))
theorem s25_e {μ μ' : gs_M} (h : ∀ j, j ≠ 1 → μ'.1 25 j = μ.1 25 j) (w : Int32) : (sI μ' 25 1 w).1 25 = (sI μ 25 1 w).1 25 := by
  funext j
  by_cases q : j = 1
  · subst q; rw [sI_u, sI_u]
  · rw [sI_o _ _ q, sI_o _ _ q, h j q]
theorem s78_e {ν ν' : gs_M} (h : ∀ j, j = 27 ∨ j = 29 → ν'.1 78 j = ν.1 78 j) (w : Int32) : ∀ j, 27 ≤ j → j ≤ 29 → (sI ν' 78 28 w).1 78 j = (sI ν 78 28 w).1 78 j := by
  intro j j1 j2
  by_cases q : j = 28
  · subst q; rw [sI_u, sI_u]
  · rw [sI_o _ _ q, sI_o _ _ q, h j (by omega)]
def OIo (r R st n B : Nat) (was : Int32) (μ ν : gs_M) : Prop := (r < R ∧ R ≤ 4 ∧ μ.1 16 1 = nI R ∧ rO μ ν r) ∧ VR μ 26 (ν.1 89) (ν.1 83) (ν.2 78 33) st n B ∧ SS (sI μ 25 1 was) (sI ν 78 28 was) ∧ (μ.1 76 0 = ν.1 78 49 ∧ μ.1 76 1 = ν.1 78 50 ∧ μ.1 76 2 = ν.1 78 51)
theorem fol_l {r R st n B D N : Nat} {sea was : Int32} (hsea : 0 ≤ sea.toInt ∧ sea.toInt ≤ 30) (hD : D ≤ 9) (hN : N ≤ 5) (hB : B ≤ 100000) : ∀ (i k fu fu2 : Nat) (μ ν : gs_M), k + i = N → i < fu → i < fu2 → OIo r R st n B was μ ν → ∃ (μ' ν' : gs_M), L_X11_followRule_35 fu (nI r) sea (nI D) (nI N) was (nI k) μ = some μ' ∧ L_X12_layFollowed_24 fu2 (nI r) sea (nI D) (nI N) was (nI k) ν = some ν' ∧ μ'.1 25 1 = was ∧ ν'.1 78 28 = was ∧ (μ'.1 76 0 = ν'.1 78 49 ∧ μ'.1 76 1 = ν'.1 78 50 ∧ μ'.1 76 2 = ν'.1 78 51) ∧ CFo μ μ' ∧ MKo ν ν' := by
  intro i
  induction i with
  | zero =>
    intro k fu fu2 μ ν hk hf hf2 hO
    obtain ⟨fu, rfl⟩ : ∃ m, fu = m + 1 := ⟨fu - 1, by omega⟩
    obtain ⟨fu2, rfl⟩ : ∃ m, fu2 = m + 1 := ⟨fu2 - 1, by omega⟩
    have hle : nI N ≤ nI k := nI_le (by omega) (by omega)
    obtain ⟨-, -, -, p0, p1, p2⟩ := hO
    refine ⟨sI μ 25 1 was, sI ν 78 28 was, ?_, ?_, sI_u _ _ _ _, sI_u _ _ _ _, ⟨?_, ?_, ?_⟩, CFo.s (by omega), MKo.s (by omega)⟩
    · show Bo_X11_followRule_35 _ _ _ _ _ _ _ _ = _
      unfold Bo_X11_followRule_35
      rw [if_pos hle, lt1]
    · show Bo_X12_layFollowed_24 _ _ _ _ _ _ _ _ = _
      unfold Bo_X12_layFollowed_24
      rw [if_pos hle, lt1]
    · rw [sI_n _ _ _ (by decide), sI_o _ _ (by decide)]; exact p0
    · rw [sI_n _ _ _ (by decide), sI_o _ _ (by decide)]; exact p1
    · rw [sI_n _ _ _ (by decide), sI_o _ _ (by decide)]; exact p2
  | succ i ih =>
    intro k fu fu2 μ ν hk hf hf2 hO
    obtain ⟨fu, rfl⟩ : ∃ m, fu = m + 1 := ⟨fu - 1, by omega⟩
    obtain ⟨fu2, rfl⟩ : ∃ m, fu2 = m + 1 := ⟨fu2 - 1, by omega⟩
    have hle : ¬ nI N ≤ nI k := nI_ge (by omega) (by omega)
    obtain ⟨⟨hr, hR4, h16, hrO⟩, hV, hS, p0, p1, p2⟩ := hO
    -- as she is, on trial
    have hVa : VR (sI μ 25 1 was) 26 (ν.1 89) (ν.1 83) (ν.2 78 33) st n B := hV.cm (fun b b1 b2 => sI_n _ _ _ (by omega)) rfl (fun _ _ => rfl) rfl rfl
    obtain ⟨μb, νb, s1, s2, s3, s4, s5, s6, s7⟩ := tr_e (v := 56) (by decide) hVa
    obtain ⟨μc, hμc⟩ : ∃ x, x = sL μb 56 5 (Int32.toInt64 (nI k)) := ⟨_, rfl⟩
    obtain ⟨νc, hνc⟩ : ∃ x, x = sL νb 78 33 (Int32.toInt64 (nI k)) := ⟨_, rfl⟩
    obtain ⟨νd, hνd⟩ : ∃ x, x = sI νc 78 28 was := ⟨_, rfl⟩
    have hVc : VR μc 56 (νd.1 89) (νd.1 83) (νd.2 78 33) st n B := by
      have := s3.dr (z := Int32.toInt64 (nI k))
      rw [hμc, hνd, sI_n _ _ _ (by decide), sI_n _ _ _ (by decide), sI_L, hνc]
      exact this
    have cc : CFo μ μc := by
      refine (CFo.s (a := 25) (j := 1) (v := was) (by omega)).trans (s4.cf.trans ?_)
      rw [hμc]
      exact ⟨fun _ _ _ _ _ _ _ => rfl, fun _ _ => rfl, fun _ _ => rfl, fun b hb => sL_n _ _ _ hb⟩
    have c1 : ∀ b, μc.1 b = μb.1 b := fun b => by rw [hμc, sL_I]
    have n1 : ∀ b, νc.1 b = νb.1 b := fun b => by rw [hνc, sL_I]
    have h25 : μc.1 25 = (sI μ 25 1 was).1 25 := by rw [c1, s4.1 25 (by omega)]
    have h78c : νc.1 78 = ν.1 78 := by rw [n1, s6]
    have hSc : SS μc νd := by
      refine hS.go h25 ?_
      rw [hνd]
      exact s78_e (fun j _ => by rw [h78c]) was
    have h76c : μc.1 76 = μ.1 76 := by rw [c1, s4.1 76 (by omega), sI_n _ _ _ (by decide)]
    have hMd : ∀ b, b ≠ 78 → b ≠ 89 → b ≠ 90 → νd.1 b = ν.1 b := fun b b1 b2 b3 => by rw [hνd, sI_n _ _ _ b1, n1, s5.1 b b1 b2 b3]
    have h78d : ∀ j, j ≠ 28 → νd.1 78 j = ν.1 78 j := fun j hj => by rw [hνd, sI_o _ _ hj, h78c]
    have hrOd : rO μc νd r := hrO.go (by rw [cc.1 23 (by omega) (by omega) (by omega) (by omega) (by omega) (by omega)]) (cc.1 _ (by omega) (by omega) (by omega) (by omega) (by omega) (by omega)) (by rw [hMd 81 (by omega) (by omega) (by omega)]) (fun j _ => by rw [hMd 80 (by omega) (by omega) (by omega)])
    obtain ⟨μe, νe, B', v1, v2, v3, v4, v5⟩ := fdy_l (x4 := nI N) (x5 := was) (x6 := nI k) (q35 := L_X11_followRule_35 fu) (q24 := L_X12_layFollowed_24 fu2) hsea hD D 0 4096 4096 B μc νd (by omega) (by omega) (by omega) (by omega) ⟨⟨hr, hR4, (cc.2.1 1 (by decide)).trans h16, hrOd⟩, hVc, hSc, by rw [h76c, h78d 49 (by decide)]; exact p0, by rw [h76c, h78d 50 (by decide)]; exact p1, by rw [h76c, h78d 51 (by decide)]; exact p2⟩
    obtain ⟨⟨-, -, e16, erO⟩, eV, eS, e0, e1, e2⟩ := v3
    -- what comes of it
    obtain ⟨z, hz⟩ : ∃ z, z = νe.1 89 79 := ⟨_, rfl⟩
    obtain ⟨μf, hμf⟩ : ∃ x, x = sI μe 76 0 (μe.1 76 0 + z) := ⟨_, rfl⟩
    obtain ⟨νf, hνf⟩ : ∃ x, x = sI νe 78 49 (νe.1 78 49 + z) := ⟨_, rfl⟩
    have hVf : VC μf 56 (νf.1 89) (νf.1 83) st n B' := by
      rw [hνf, sI_n _ _ _ (by decide), sI_n _ _ _ (by decide)]
      exact eV.1.go (by rw [hμf, sI_n _ _ _ (by decide)]) (fun b b1 b2 => by rw [hμf, sI_n _ _ _ (by omega)]) (fun _ _ => rfl) rfl
    have hSf : SS μf νf := eS.go (by rw [hμf, sI_n _ _ _ (by decide)]) (fun j j1 j2 => by rw [hνf, sI_o _ _ (by omega)])
    obtain ⟨l, l1, l2, -⟩ := lean_e hVf hSf
    obtain ⟨al, hal⟩ : ∃ al, al = (if 0 ≤ l then l else 0 - l) := ⟨_, rfl⟩
    have f761 : μf.1 76 1 = μe.1 76 1 := by rw [hμf, sI_o _ _ (by decide)]
    have f7850 : νf.1 78 50 = νe.1 78 50 := by rw [hνf, sI_o _ _ (by decide)]
    obtain ⟨μg, hμg⟩ : ∃ x, x = sI μf 76 1 (μe.1 76 1 + al) := ⟨_, rfl⟩
    obtain ⟨νg, hνg⟩ : ∃ x, x = sI νf 78 50 (νe.1 78 50 + al) := ⟨_, rfl⟩
    obtain ⟨νh, y1, y2, y3, y4, y5, y6⟩ := pb2_e νg
    have cg : CFo μ μg := by
      rw [hμg, hμf]
      exact cc.trans (v4.trans ((CFo.s (by omega)).trans (CFo.s (by omega))))
    have mg : MFo νd νg := by
      rw [hνg, hνf]
      exact v5.trans ((MFo.s (by omega)).trans (MFo.s (by omega)))
    have kh : MKo ν νh := by
      refine ⟨fun b b1 b2 b3 b4 => by rw [y2 b b3, mg.1 b b1 b2 b3, hMd b b1 b3 b4], fun j j1 j2 j3 j4 j5 j6 j7 => by rw [y2 78 (by decide), mg.2.1 j j1 j2 j3 j4 j5 j6 j7, h78d j j2], fun j hj => ?_, fun b hb => ?_, fun j hj => ?_⟩
      · rw [y3 j hj, mg.1 90 (by decide) (by decide) (by decide), hνd, sI_n _ _ _ (by decide), n1]
        exact s5.2.2.1 j hj
      · rw [y4 b hb, mg.2.2.1 b hb, hνd, sI_L, hνc, sL_n _ _ _ hb]
        exact s5.2.2.2.2.1 b hb
      · by_cases q : j = 33
        · subst q
          rw [y6, mg.2.2.2 34 (by decide), hνd, sI_L, hνc, sL_s, pk_uLn (by decide)]
          exact s5.2.2.2.1
        · rw [y5 j q, mg.2.2.2 j q, hνd, sI_L, hνc, sL_s, pk_uLn q]
          exact s5.2.2.2.2.2 j q hj
    have g0 : μg.1 76 0 = νh.1 78 49 := by rw [y2 78 (by decide), hμg, sI_o _ _ (by decide), hμf, sI_u, hνg, sI_o _ _ (by decide), hνf, sI_u, e0]
    have g1 : μg.1 76 1 = νh.1 78 50 := by rw [y2 78 (by decide), hμg, sI_u, hνg, sI_u, e1]
    have g2 : μg.1 76 2 = νh.1 78 51 := by rw [y2 78 (by decide), hμg, sI_o _ _ (by decide), hμf, sI_o _ _ (by decide), hνg, sI_o _ _ (by decide), hνf, sI_o _ _ (by decide), e2]
    obtain ⟨μ', ν', w1, w2, w3, w4, w5, w6, w7⟩ := ih (k + 1) fu fu2 μg νh (by omega) (by omega) (by omega) ⟨⟨hr, hR4, (cg.2.1 1 (by decide)).trans h16, hrO.ck (by omega) cg kh⟩, hV.ck cg kh, hS.go (s25_e cg.2.2.1 was) (s78_e (fun j hj => kh.2.1 j (by omega) (by omega) (by omega) (by omega) (by omega) (by omega) (by omega)) was), g0, g1, g2⟩
    refine ⟨μ', ν', ?_, ?_, w3, w4, w5, cg.trans w6, kh.trans w7⟩
    · show Bo_X11_followRule_35 _ _ _ _ _ _ _ _ = _
      unfold Bo_X11_followRule_35
      have v1' : L_X11_followRule_75 (L_X11_followRule_35 fu) 4096 (nI r) sea (nI D) (nI N) was (nI k) 0 μc = B_X11_followRule_112 (L_X11_followRule_35 fu) (nI r) sea (nI D) (nI N) was (nI k) μe := v1
      rw [if_neg hle, lt1, s1, bd0_s, lt1, ← hμc, v1']
      unfold B_X11_followRule_112 B_X11_followRule_134
      have i0 : inb (0 : Int32) 3 = true := by decide
      have i1 : inb (1 : Int32) 3 = true := by decide
      have k0 : Int32.toNatClampNeg (0 : Int32) = 0 := by decide
      have k1 : Int32.toNatClampNeg (1 : Int32) = 1 := by decide
      rw [i0, i1, k0, k1, ck_t, gI_d μe 56 4, eV.2.2.2.1, gI_d μe 76 0, ← hz]
      have fin : ∀ x, x = z → (ck true (lt1 (sI μe 76 0 (μe.1 76 0 + x)) (fun u2 => ck true (bd (D_X10_lean 56 u2) (fun v6 u5 => lt1 (if 0 ≤ v6 then v6 else 0 - v6) (fun v7 => ck true (lt1 (sI u5 76 1 ((gI u2 76 1) + v7)) (fun u9 => L_X11_followRule_35 fu (nI r) sea (nI D) (nI N) was (nI k + (1 : Int32)) u9)))))))) = some μ' := by
        intro x hx
        subst hx
        rw [ck_t, lt1, ← hμf, ck_t, l1, bd_s, ← hal, lt1, ck_t, gI_d μf 76 1, f761, lt1, ← hμg, nI_1]
        exact w1
      rcases eV.2.2.2.2.1 with q | q
      · rw [if_pos (hz.trans q)]
        exact fin 0 (hz.trans q).symm
      · rw [if_neg (show ¬ z = 0 by rw [hz, q]; exact z10)]
        exact fin 1 (hz.trans q).symm
    · show Bo_X12_layFollowed_24 _ _ _ _ _ _ _ _ = _
      unfold Bo_X12_layFollowed_24
      have v2' : L_X12_layFollowed_51 (L_X12_layFollowed_24 fu2) 4096 (nI r) sea (nI D) (nI N) was (nI k) 0 νd = B_X12_layFollowed_83 (L_X12_layFollowed_24 fu2) (nI r) sea (nI D) (nI N) was (nI k) νe := v2
      rw [if_neg hle, s2, bd0_s, lt1, ← hνc, lt1, ← hνd, v2']
      unfold B_X12_layFollowed_83
      rw [mnw_79, bd_s, ← hz, gI_d νe 78 49, lt1, ← hνf, l2, bd_s, ← hal, lt1, gI_d νf 78 50, f7850, lt1, ← hνg, y1, bd0_s, nI_1]
      exact w2
/-- followRule, layFollowed -/
theorem f12_s {fu k : Nat} {x1 x2 x3 x4 x5 : Int32} {μ : gs_M} (hk : k < 3) : L_X11_followRule_12 (fu + 1) x1 x2 x3 x4 x5 (nI k) μ = L_X11_followRule_12 fu x1 x2 x3 x4 x5 (nI (k + 1)) (sI μ 76 k 0) := by
  show Bo_X11_followRule_12 _ _ _ _ _ _ _ _ = _
  unfold Bo_X11_followRule_12
  rw [if_neg (show ¬ (3 : Int32) ≤ nI k by rw [show (3 : Int32) = nI 3 from rfl]; exact nI_ge (by omega) (by omega)), inb_n hk (by decide), ck_t, nI_clamp (by omega), lt1, nI_1]
theorem f12_3 {fu : Nat} {x1 x2 x3 x4 x5 : Int32} {μ : gs_M} : L_X11_followRule_12 (fu + 1) x1 x2 x3 x4 x5 (nI 3) μ = L_X11_followRule_35 4096 x1 x2 x3 x4 x5 0 μ := by
  show Bo_X11_followRule_12 _ _ _ _ _ _ _ _ = _
  unfold Bo_X11_followRule_12
  rw [if_pos (by decide)]
theorem fo_e {r R st n B D N : Nat} {sea : Int32} {μ ν : gs_M} (hsea : 0 ≤ sea.toInt ∧ sea.toInt ≤ 30) (hD : D ≤ 9) (hN : N ≤ 5) (hB : B ≤ 100000) (hr : r < R) (hR4 : R ≤ 4) (h16 : μ.1 16 1 = nI R) (hrO : rO μ ν r) (hV : VR μ 26 (ν.1 89) (ν.1 83) (ν.2 78 33) st n B) (hS : SS μ ν) : ∃ (μ' ν' : gs_M), D_X11_followRule (nI r) sea (nI D) (nI N) μ = some μ' ∧ D_X12_layFollowed (nI r) sea (nI D) (nI N) ν = some ν' ∧ (μ'.1 76 0 = ν'.1 78 49 ∧ μ'.1 76 1 = ν'.1 78 50 ∧ μ'.1 76 2 = ν'.1 78 51) ∧ CFo μ μ' ∧ MKo ν ν' ∧ μ'.1 25 = μ.1 25 ∧ ν'.1 78 28 = ν.1 78 28 := by
  obtain ⟨μ1, hμ1⟩ : ∃ x, x = sI (sI (sI μ 76 0 0) 76 1 0) 76 2 0 := ⟨_, rfl⟩
  obtain ⟨ν1, hν1⟩ : ∃ x, x = sI (sI (sI ν 78 49 0) 78 50 0) 78 51 0 := ⟨_, rfl⟩
  have c1 : CFo μ μ1 := by
    rw [hμ1]
    exact (CFo.s (by omega)).trans ((CFo.s (by omega)).trans (CFo.s (by omega)))
  have k1 : MKo ν ν1 := by
    rw [hν1]
    exact (MKo.s (by omega)).trans ((MKo.s (by omega)).trans (MKo.s (by omega)))
  obtain ⟨was, hwas⟩ : ∃ w, w = ν.1 78 28 := ⟨_, rfl⟩
  have w25 : μ.1 25 1 = was := by rw [hwas]; exact hS.2.1
  have w28 : ν1.1 78 28 = was := by rw [hwas, hν1, sI_o _ _ (by decide), sI_o _ _ (by decide), sI_o _ _ (by decide)]
  have e25 : (sI μ1 25 1 was).1 25 = μ.1 25 := by
    funext j
    by_cases q : j = 1
    · subst q; rw [sI_u, w25]
    · rw [sI_o _ _ q, c1.2.2.1 j q]
  have hS1 : SS (sI μ1 25 1 was) (sI ν1 78 28 was) := by
    refine hS.go e25 (fun j j1 j2 => ?_)
    by_cases q : j = 28
    · subst q; rw [sI_u, hwas]
    · rw [sI_o _ _ q, k1.2.1 j (by omega) (by omega) (by omega) (by omega) (by omega) (by omega) (by omega)]
  obtain ⟨μ', ν', t1, t2, t3, t4, t5, t6, t7⟩ := fol_l (was := was) (N := N) hsea hD hN hB N 0 4096 4096 μ1 ν1 (by omega) (by omega) (by omega) ⟨⟨hr, hR4, (c1.2.1 1 (by decide)).trans h16, hrO.ck (by omega) c1 k1⟩, hV.ck c1 k1, hS1, by rw [hμ1, sI_o _ _ (by decide), sI_o _ _ (by decide), sI_u, hν1, sI_o _ _ (by decide), sI_o _ _ (by decide), sI_u], by rw [hμ1, sI_o _ _ (by decide), sI_u, hν1, sI_o _ _ (by decide), sI_u], by rw [hμ1, sI_u, hν1, sI_u]⟩
  have c' := c1.trans t6
  refine ⟨μ', ν', ?_, ?_, t5, c', k1.trans t7, ?_, by rw [t4, hwas]⟩
  · unfold D_X11_followRule
    rw [lt1, gI_d μ 25 1, w25]
    show L_X11_followRule_12 (4092 + 1 + 1 + 1 + 1) _ _ _ _ _ (nI 0) _ = _
    rw [f12_s (by decide), f12_s (by decide), f12_s (by decide), f12_3, ← hμ1]
    exact t1
  · unfold D_X12_layFollowed
    rw [lt1, lt1, lt1, ← hν1, gI_d ν1 78 28, w28, lt1]
    exact t2
  · funext j
    by_cases q : j = 1
    · subst q; rw [t3, w25]
    · exact c'.2.2.1 j q
