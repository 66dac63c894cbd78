/-! follow, better -/
theorem inR {x : Int32} {R : Nat} (hR : R ≤ 4) : inN x 0 (nI R - 1) = 0 ∨ ∃ k, k < R ∧ x = nI k ∧ inN x 0 (nI R - 1) = 1 := by
  by_cases q : R = 0
  · subst q
    rcases inN_k x (lo := 0) (hi := nI 0 - 1) (L := 0) (H := -1) (by decide) (by decide) with h | ⟨-, h1, h2⟩
    · exact Or.inl h
    · omega
  · rcases inN_n (x := x) (n := R) (by omega) (by omega) with ⟨-, h⟩ | h
    · exact Or.inl h
    · exact Or.inr h
theorem CFo.kc {μ μ' : gs_M} (h : CFo μ μ') (h25 : μ'.1 25 = μ.1 25) : kC μ μ' := by
  refine ⟨fun b hb => ?_, h.2.1 1 (by decide), h.2.2.2 26 (by decide), h.2.2.2 36 (by decide)⟩
  by_cases q : b = 25
  · subst q; exact h25
  · exact h.1 b (by omega) (by omega) (by omega) q (by omega) (by omega)
theorem MKo.km {ν ν' : gs_M} (h : MKo ν ν') (h28 : ν'.1 78 28 = ν.1 78 28) : kM ν ν' := by
  refine ⟨fun b hb => h.1 b (by omega) (by omega) (by omega) (by omega), h.2.2.1, fun j hj => ?_, h.2.2.2.2 33 (by decide), h.2.2.2.2 35 (by decide)⟩
  by_cases q : j = 28
  · subst q; exact h28
  · exact h.2.1 j (by omega) q (by omega) (by omega) (by omega) (by omega) (by omega)
theorem CFo.e {μ μ' : gs_M} (h : CFo μ μ') : eC μ μ' := fun b hb => ⟨h.1 b (by omega) (by omega) (by omega) (by omega) (by omega) (by omega), h.2.2.2 b (by omega)⟩
theorem MKo.e {ν ν' : gs_M} (h : MKo ν ν') : eM ν ν' := fun b hb => ⟨h.1 b (by omega) (by omega) (by omega) (by omega), h.2.2.2.1 b (by omega)⟩
theorem isf_0 {x y z : Int32} {ν : gs_M} (h : D_X12_isAfloat ν = some (0, ν)) : D_X12_isFollowed x y z ν = some (0, ν) := by
  unfold D_X12_isFollowed B_X12_isFollowed_20
  rw [h, bd_s, if_pos rfl]
theorem isf_1 {x y z r : Int32} {ν : gs_M} (h : D_X12_isAfloat ν = some (1, ν)) (hr : Z1 r) (h2 : D_X12_isVoyage x y z ν = some (r, ν)) : D_X12_isFollowed x y z ν = some (r, ν) := by
  unfold D_X12_isFollowed B_X12_isFollowed_20
  rw [h, bd_s, if_neg z10, h2, bd_s]
  rcases hr with rfl | rfl
  · rw [if_pos rfl]
  · rw [if_neg z10]
theorem k_follow {i : Nat} (hi : i ≤ 4096) (y0 y1 y2 y3 y4 : Int32) : CALLS i (D_X11_follow y0 y1 y2 y3 y4) (D_X12_follow y0 y1 y2 y3 y4) := by
  intro μ ν0 h0
  obtain ⟨ν, hν, h, he⟩ := th_e h0
  obtain ⟨st, hU, hL, hI, hQ, hgo⟩ := rt_live h
  have hS := hQ.1
  obtain ⟨R, r1, r2, r3, r4⟩ := h.2.2.2.2.2.2.2.2.2
  unfold D_X11_follow D_X12_follow
  rw [lt1, ← hν, gI_d ν 78 7, r3, ii_e, bd_s]
  rcases rdy_e hL with ⟨rc, rm⟩ | ⟨rc, rm, n, hV, hz⟩
  · refine fin_e (r := -1000000) h he (by rw [rc, bd_s, if_pos rfl]) ?_
    rw [isf_0 rm, bd_s, if_pos rfl, ite_self]
  rw [rc, bd_s, if_neg z10, gI_d μ 16 1, r2, wi_e, bd_s]
  rcases inR (x := y0) r1 with hz0 | ⟨r, hr, rfl, hz1⟩
  · exact fin_e (r := -1000000) h he (by rw [hz0, if_pos rfl]) (by rw [hz0, if_pos rfl])
  rw [hz1, if_neg z10, if_neg z10]
  rcases cvo_e y1 y2 y3 μ ν with ⟨q3, q4⟩ | ⟨D, N, d1, d2, n1, n2, rfl, rfl, hsea, q3, q4⟩
  · exact fin_e (r := -1000000) h he (by rw [q3, bd_s, if_pos rfl]) (by rw [isf_1 rm (Or.inl rfl) q4, bd_s, if_pos rfl])
  rw [q3, bd_s, if_neg z10, isf_1 rm (Or.inr rfl) q4, bd_s, if_neg z10, wi_e, bd_s, ii_e, bd_s]
  rcases inN_n (x := y4) (n := 3) (by decide) (by decide) with ⟨-, hw⟩ | ⟨w, hw, rfl, hw1⟩
  · have hw' : inN y4 0 2 = 0 := hw
    exact fin_e (r := -1000000) h he (by rw [hw', if_pos rfl]) (by rw [hw', if_pos rfl])
  have hw1' : inN (nI w) 0 2 = 1 := hw1
  rw [hw1', if_neg z10, if_neg z10]
  obtain ⟨μ', ν', t1, t2, ⟨t30, t31, t32⟩, t4, t5, t6, t7⟩ := fo_e hsea d1 n1 (show 20 * i ≤ 100000 by omega) hr r1 r2 (r4 r hr) hV hS
  rw [t1, bd0_s, t2, bd0_s, inb_n hw (by decide), ck_t, nI_clamp (by omega), gI_d μ' 76 w, gI_d ν' 78 49, gI_d ν' 78 50, gI_d ν' 78 51]
  refine ⟨μ'.1 76 w, μ', ν', rfl, ?_, h.go (by omega) (t4.kc t6) (t5.km t7), t4.e, he.trans t5.e⟩
  have : w = 0 ∨ w = 1 ∨ w = 2 := by omega
  rcases this with rfl | rfl | rfl
  · rw [if_pos (show nI 0 = 0 from rfl), t30]
  · rw [if_neg (by decide), if_pos (show nI 1 = 1 from rfl), t31]
  · rw [if_neg (by decide), if_neg (by decide), t32]
/-- which outcome is better -/
def isN (a b c x y z : Int32) : Int32 := if a < x then 1 else if a = x then (if b < y then 1 else if b = y then (if z ≤ c then 0 else 1) else 0) else 0
theorem ib_s {fu k : Nat} {μ : gs_M} (hk : k < 3) : L_X11_isBestOutcome_2 (fu + 1) (nI k) μ = if μ.1 76 k = μ.1 77 k then L_X11_isBestOutcome_2 fu (nI (k + 1)) μ else (if μ.1 77 k ≤ μ.1 76 k then some (0, μ) else some (1, μ)) := by
  show Bo_X11_isBestOutcome_2 _ _ _ = _
  unfold Bo_X11_isBestOutcome_2
  rw [if_neg (show ¬ (3 : Int32) ≤ nI k by rw [show (3 : Int32) = nI 3 from rfl]; exact nI_ge (by omega) (by omega)), inb_n hk (by decide), ck_t, ck_t, ck_t, ck_t, nI_clamp (by omega), gI_d μ 76 k, gI_d μ 77 k, nI_1]
theorem ib_3 {fu : Nat} {μ : gs_M} : L_X11_isBestOutcome_2 (fu + 1) (nI 3) μ = some (0, μ) := by
  show Bo_X11_isBestOutcome_2 _ _ _ = _
  unfold Bo_X11_isBestOutcome_2
  rw [if_pos (by decide)]
theorem ib_e (μ : gs_M) : D_X11_isBestOutcome μ = some (isN (μ.1 76 0) (μ.1 76 1) (μ.1 76 2) (μ.1 77 0) (μ.1 77 1) (μ.1 77 2), μ) := by
  show L_X11_isBestOutcome_2 (4092 + 1 + 1 + 1 + 1) (nI 0) μ = _
  rw [ib_s (by decide), ib_s (by decide), ib_s (by decide), ib_3]
  unfold isN
  generalize μ.1 76 0 = a
  generalize μ.1 76 (0 + 1) = b
  generalize μ.1 76 (0 + 1 + 1) = c
  generalize μ.1 77 0 = x
  generalize μ.1 77 (0 + 1) = y
  generalize μ.1 77 (0 + 1 + 1) = z
  simp only [ti_lt, ti_le, ti_eq a, ti_eq b, ti_eq c]
  by_cases q1 : a.toInt = x.toInt
  · rw [if_pos q1, if_neg (show ¬ a.toInt < x.toInt by omega), if_pos q1]
    by_cases q2 : b.toInt = y.toInt
    · rw [if_pos q2, if_neg (show ¬ b.toInt < y.toInt by omega), if_pos q2]
      by_cases q3 : c.toInt = z.toInt
      · rw [if_pos q3, if_pos (show z.toInt ≤ c.toInt by omega)]
      · rw [if_neg q3]
        split <;> rfl
    · rw [if_neg q2]
      by_cases q4 : b.toInt < y.toInt
      · rw [if_pos q4, if_neg (show ¬ y.toInt ≤ b.toInt by omega)]
      · rw [if_neg q4, if_neg q2, if_pos (show y.toInt ≤ b.toInt by omega)]
  · rw [if_neg q1]
    by_cases q4 : a.toInt < x.toInt
    · rw [if_pos q4, if_neg (show ¬ x.toInt ≤ a.toInt by omega)]
    · rw [if_neg q4, if_neg q1, if_pos (show x.toInt ≤ a.toInt by omega)]
def cp77 (μ : gs_M) : gs_M := sI (sI (sI μ 77 0 (μ.1 76 0)) 77 1 (μ.1 76 1)) 77 2 (μ.1 76 2)
theorem b65_s {fu k : Nat} {q24 : Int32 → Int32 → Int32 → Int32 → Int32 → gs_M → Option (Int32 × gs_M)} {x1 x2 x3 x4 x5 : Int32} {μ : gs_M} (hk : k < 3) : L_X11_better_65 q24 (fu + 1) x1 x2 x3 x4 x5 (nI k) μ = L_X11_better_65 q24 fu x1 x2 x3 x4 x5 (nI (k + 1)) (sI μ 77 k (μ.1 76 k)) := by
  show Bo_X11_better_65 _ _ _ _ _ _ _ _ _ = _
  unfold Bo_X11_better_65
  rw [if_neg (show ¬ (3 : Int32) ≤ nI k by rw [show (3 : Int32) = nI 3 from rfl]; exact nI_ge (by omega) (by omega)), inb_n hk (by decide), ck_t, ck_t, nI_clamp (by omega), gI_d μ 76 k, lt1, nI_1]
theorem b58_e {q24 : Int32 → Int32 → Int32 → Int32 → Int32 → gs_M → Option (Int32 × gs_M)} {x1 x2 x3 x5 : Int32} {μ : gs_M} : B_X11_better_58 q24 x1 x2 x3 x5 μ = q24 x1 x2 x3 x5 (x5 + 1) (cp77 μ) := by
  unfold B_X11_better_58
  show L_X11_better_65 q24 (4092 + 1 + 1 + 1 + 1) _ _ _ _ _ (nI 0) _ = _
  rw [b65_s (by decide), b65_s (by decide), b65_s (by decide)]
  show Bo_X11_better_65 _ _ _ _ _ _ _ _ _ = _
  unfold Bo_X11_better_65 cp77
  rw [if_pos (by decide), sI_n _ _ _ (show (76 : Nat) ≠ 77 by decide), sI_n _ _ _ (show (76 : Nat) ≠ 77 by decide), sI_n _ _ _ (show (76 : Nat) ≠ 77 by decide)]
theorem cp77_k (μ : gs_M) : kC μ (cp77 μ) ∧ eC μ (cp77 μ) := by
  have h : ∀ b, b ≠ 77 → (cp77 μ).1 b = μ.1 b := fun b hb => by unfold cp77; rw [sI_n _ _ _ hb, sI_n _ _ _ hb, sI_n _ _ _ hb]
  exact ⟨⟨fun b hb => h b (by omega), by rw [h 16 (by decide)], rfl, rfl⟩, fun b hb => ⟨h b (by omega), rfl⟩⟩
theorem bet_l {st n B D N R : Nat} {sea : Int32} (hsea : 0 ≤ sea.toInt ∧ sea.toInt ≤ 30) (hD : D ≤ 9) (hN : N ≤ 5) (hB : B ≤ 100000) (hR4 : R ≤ 4) : ∀ (i k fu fu2 : Nat) (x4 x5 x6 x7 : Int32) (μ ν : gs_M), k + i = R → i < fu → i < fu2 → VR μ 26 (ν.1 89) (ν.1 83) (ν.2 78 33) st n B → SS μ ν → μ.1 16 1 = nI R → ν.1 78 7 = nI R → (∀ r, r < R → rO μ ν r) → (x4 = -1 ∨ (μ.1 77 0 = x5 ∧ μ.1 77 1 = x6 ∧ μ.1 77 2 = x7)) → ∃ (b : Int32) (μ' ν' : gs_M), L_X11_better_24 fu sea (nI D) (nI N) x4 (nI k) μ = some (b, μ') ∧ L_X12_better_32 fu2 sea (nI D) (nI N) x4 x5 x6 x7 (nI k) ν = some (b, ν') ∧ kC μ μ' ∧ eC μ μ' ∧ kM ν ν' ∧ eM ν ν' := by
  intro i
  induction i with
  | zero =>
    intro k fu fu2 x4 x5 x6 x7 μ ν hk hf hf2 hV hS h16 h7 hO hx
    obtain ⟨fu, rfl⟩ : ∃ m, fu = m + 1 := ⟨fu - 1, by omega⟩
    obtain ⟨fu2, rfl⟩ : ∃ m, fu2 = m + 1 := ⟨fu2 - 1, by omega⟩
    have hle : nI R ≤ nI k := nI_le (by omega) (by omega)
    refine ⟨x4, μ, ν, ?_, ?_, kC.refl, eC.refl, kM.refl, eM.refl⟩
    · show Bo_X11_better_24 _ _ _ _ _ _ _ = _
      unfold Bo_X11_better_24
      rw [gI_d μ 16 1, h16, if_pos hle]
    · show Bo_X12_better_32 _ _ _ _ _ _ _ _ _ _ = _
      unfold Bo_X12_better_32
      rw [gI_d ν 78 7, h7, if_pos hle]
  | succ i ih =>
    intro k fu fu2 x4 x5 x6 x7 μ ν hk hf hf2 hV hS h16 h7 hO hx
    obtain ⟨fu, rfl⟩ : ∃ m, fu = m + 1 := ⟨fu - 1, by omega⟩
    obtain ⟨fu2, rfl⟩ : ∃ m, fu2 = m + 1 := ⟨fu2 - 1, by omega⟩
    have hle : ¬ nI R ≤ nI k := nI_ge (by omega) (by omega)
    obtain ⟨μ1, ν1, t1, t2, ⟨t30, t31, t32⟩, t4, t5, t6, t7⟩ := fo_e hsea hD hN hB (show k < R by omega) hR4 h16 (hO k (by omega)) hV hS
    have kc := t4.kc t6
    have km := t5.km t7
    have h77 : μ1.1 77 = μ.1 77 := t4.1 77 (by omega) (by omega) (by omega) (by omega) (by omega) (by omega)
    obtain ⟨is, his⟩ : ∃ is, is = isN (ν1.1 78 49) (ν1.1 78 50) (ν1.1 78 51) x5 x6 x7 := ⟨_, rfl⟩
    have m1 : L_X12_better_32 (fu2 + 1) sea (nI D) (nI N) x4 x5 x6 x7 (nI k) ν = B_X12_better_100 (L_X12_better_32 fu2) sea (nI D) (nI N) x4 x5 x6 x7 (nI k) is ν1 := by
      show Bo_X12_better_32 _ _ _ _ _ _ _ _ _ _ = _
      unfold Bo_X12_better_32 B_X12_better_99
      rw [gI_d ν 78 7, h7, if_neg hle, t2, bd0_s, gI_d ν1 78 49, gI_d ν1 78 50, gI_d ν1 78 51, his]
      unfold isN
      by_cases q1 : ν1.1 78 49 < x5
      · rw [if_pos q1, if_pos q1]
      rw [if_neg q1, if_neg q1]
      by_cases q2 : ν1.1 78 49 = x5
      · rw [if_pos q2, if_pos q2]
        by_cases q3 : ν1.1 78 50 < x6
        · rw [if_pos q3, if_pos q3]
        rw [if_neg q3, if_neg q3]
        by_cases q4 : ν1.1 78 50 = x6
        · rw [if_pos q4, if_pos q4]
          by_cases q5 : x7 ≤ ν1.1 78 51
          · rw [if_pos q5, if_pos q5]
          · rw [if_neg q5, if_neg q5]
        · rw [if_neg q4, if_neg q4]
      · rw [if_neg q2, if_neg q2]
    have c1 : L_X11_better_24 (fu + 1) sea (nI D) (nI N) x4 (nI k) μ = if x4 = -1 then L_X11_better_24 fu sea (nI D) (nI N) (nI k) (nI (k + 1)) (cp77 μ1) else (if is = 0 then L_X11_better_24 fu sea (nI D) (nI N) x4 (nI (k + 1)) μ1 else L_X11_better_24 fu sea (nI D) (nI N) (nI k) (nI (k + 1)) (cp77 μ1)) := by
      show Bo_X11_better_24 _ _ _ _ _ _ _ = _
      unfold Bo_X11_better_24
      rw [gI_d μ 16 1, h16, if_neg hle, t1, bd0_s, b58_e, ib_e, bd_s, b58_e, nI_1]
      by_cases q : x4 = -1
      · rw [if_pos q, if_pos q]
      · rw [if_neg q, if_neg q]
        rcases hx with e | ⟨e1, e2, e3⟩
        · exact absurd e q
        · rw [t30, t31, t32, h77, e1, e2, e3, ← his]
    rw [c1, m1]
    unfold B_X12_better_100 B_X12_better_116
    rw [gI_d ν1 78 49, gI_d ν1 78 50, gI_d ν1 78 51, lt1, lt1, lt1, nI_1]
    have keep : ∀ μ2, kC μ1 μ2 → eC μ1 μ2 → ∀ y4 y5 y6 y7, (y4 = -1 ∨ (μ2.1 77 0 = y5 ∧ μ2.1 77 1 = y6 ∧ μ2.1 77 2 = y7)) → ∃ (b : Int32) (μ' ν' : gs_M), L_X11_better_24 fu sea (nI D) (nI N) y4 (nI (k + 1)) μ2 = some (b, μ') ∧ L_X12_better_32 fu2 sea (nI D) (nI N) y4 y5 y6 y7 (nI (k + 1)) ν1 = some (b, ν') ∧ kC μ μ' ∧ eC μ μ' ∧ kM ν ν' ∧ eM ν ν' := by
      intro μ2 hk2 he2 y4 y5 y6 y7 hy
      have kc2 := kc.trans hk2
      obtain ⟨b, μ', ν', w1, w2, w3, w4, w5, w6⟩ := ih (k + 1) fu fu2 y4 y5 y6 y7 μ2 ν1 (by omega) (by omega) (by omega) (hV.cm (fun b _ _ => kc2.1 b (by omega)) kc2.2.2.1 km.2.1 (km.1 83 (by omega)) km.2.2.2.1) (hS.go (kc2.1 25 (by omega)) (fun j j1 j2 => km.2.2.1 j (by omega))) (kc2.2.1.trans h16) ((km.2.2.1 7 (by omega)).trans h7) (fun r hr => (hO r hr).go (by rw [kc2.1 23 (by omega)]) (kc2.1 (19 + r) (by omega)) (by rw [km.1 81 (by omega)]) (fun j _ => by rw [km.1 80 (by omega)])) hy
      exact ⟨b, μ', ν', w1, w2, kc2.trans w3, (t4.e.trans he2).trans w4, km.trans w5, t5.e.trans w6⟩
    obtain ⟨k77, e77⟩ := cp77_k μ1
    have h2 := keep (cp77 μ1) k77 e77 (nI k) (ν1.1 78 49) (ν1.1 78 50) (ν1.1 78 51) (Or.inr ⟨by unfold cp77; rw [sI_o _ _ (by decide), sI_o _ _ (by decide), sI_u, t30], by unfold cp77; rw [sI_o _ _ (by decide), sI_u, t31], by unfold cp77; rw [sI_u, t32]⟩)
    by_cases q : x4 = -1
    · rw [if_pos q, if_pos q]
      exact h2
    · rw [if_neg q, if_neg q]
      by_cases q2 : is = 0
      · rw [if_pos q2, if_pos q2]
        exact keep μ1 kC.refl eC.refl x4 x5 x6 x7 (by rw [h77]; exact hx)
      · rw [if_neg q2, if_neg q2]
        exact h2
theorem k_better {i : Nat} (hi : i ≤ 4096) (y0 y1 y2 : Int32) : CALLS i (D_X11_better y0 y1 y2) (D_X12_better y0 y1 y2) := by
  intro μ ν0 h0
  obtain ⟨ν, hν, h, he⟩ := th_e h0
  obtain ⟨st, hU, hL, hI, hQ, hgo⟩ := rt_live h
  have hS := hQ.1
  obtain ⟨R, r1, r2, r3, r4⟩ := h.2.2.2.2.2.2.2.2.2
  unfold D_X11_better D_X12_better
  rw [lt1, ← hν]
  rcases rdy_e hL with ⟨rc, rm⟩ | ⟨rc, rm, n, hV, hz⟩
  · exact fin_e (r := -1) h he (by rw [rc, bd_s, if_pos rfl]) (by rw [isf_0 rm, bd_s, if_pos rfl])
  rw [rc, bd_s, if_neg z10]
  rcases cvo_e y0 y1 y2 μ ν with ⟨q3, q4⟩ | ⟨D, N, d1, d2, n1, n2, rfl, rfl, hsea, q3, q4⟩
  · exact fin_e (r := -1) h he (by rw [q3, bd_s, if_pos rfl]) (by rw [isf_1 rm (Or.inl rfl) q4, bd_s, if_pos rfl])
  rw [q3, bd_s, if_neg z10, isf_1 rm (Or.inr rfl) q4, bd_s, if_neg z10]
  obtain ⟨b, μ', ν', w1, w2, w3, w4, w5, w6⟩ := bet_l (D := D) (N := N) hsea d1 n1 (show 20 * i ≤ 100000 by omega) r1 R 0 4096 4096 (-1) 0 0 0 μ ν (by omega) (by omega) (by omega) hV hS r2 r3 r4 (Or.inl rfl)
  exact ⟨b, μ', ν', w1, w2, h.go (by omega) w3 w5, w4, he.trans w6⟩
