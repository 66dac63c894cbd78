/-! THE RELATION between the class's memory (first) and the reference's (second), at script index i -/
def by8 (s : Nat) : Int32 := if s < 128 then nI s else nI s - 256
def cT (μ ν : gs_M) : Prop := ∃ n, n ≤ 160 ∧ μ.1 1 1 = nI n ∧ ν.1 78 6 = nI n ∧ ∀ j, j < n → ∃ s, 1 ≤ s ∧ s ≤ 255 ∧ μ.1 2 j = nI s ∧ ν.1 79 j = by8 s
def cU (μ ν : gs_M) (st : Nat) : Prop := st ≤ 6 ∧ μ.1 7 3 = nI st ∧ μ.1 7 0 = 6 ∧ ν.1 78 24 = nI st ∧ ∀ e, e < st → μ.1 8 e = 1 ∧ (∀ j, j < 5 → μ.1 9 (20 * e + j) = ν.1 83 (5 * e + j)) ∧ ∃ r s m l w : Nat, r ≤ 20 ∧ s ≤ 30 ∧ m ≤ 30 ∧ l ≤ 999 ∧ 1 ≤ w ∧ w ≤ 9 ∧ ν.1 83 (5 * e) = nI r ∧ ν.1 83 (5 * e + 1) = nI s ∧ ν.1 83 (5 * e + 2) = nI m ∧ ν.1 83 (5 * e + 3) = nI l ∧ ν.1 83 (5 * e + 4) = nI w
def hR (μ ν : gs_M) (e r : Nat) : Prop := 1 ≤ r ∧ r ≤ 4 ∧ μ.1 11 e = nI r ∧ ν.1 86 e = nI r ∧ ∀ k, k < r → (∀ j, j < 2 → μ.1 12 (20 * e + 5 * k + j) = ν.1 84 (20 * e + 5 * k + j)) ∧ ∃ c h : Nat, 2 ≤ c ∧ c ≤ 12 ∧ 4 ≤ h ∧ h ≤ 40 ∧ ν.1 84 (20 * e + 5 * k) = nI c ∧ ν.1 84 (20 * e + 5 * k + 1) = nI h
def cH (μ ν : gs_M) (sh : Nat) : Prop := sh ≤ 3 ∧ μ.1 10 3 = nI sh ∧ μ.1 10 0 = 3 ∧ ν.1 78 25 = nI sh ∧ ∀ e, e < sh → ∃ r, hR μ ν e r
def pR (μ ν : gs_M) (e r : Nat) : Prop := 1 ≤ r ∧ r ≤ 4 ∧ μ.1 14 e = nI r ∧ ν.1 87 e = nI r ∧ ∀ k, k < r → (∀ j, j < 5 → μ.1 15 (20 * e + 5 * k + j) = ν.1 85 (20 * e + 5 * k + j)) ∧ ∃ g f t b s : Nat, g ≤ 5 ∧ f ≤ 480 ∧ t ≤ 1 ∧ b ≤ 40 ∧ s ≤ 3 ∧ ν.1 85 (20 * e + 5 * k) = nI g ∧ ν.1 85 (20 * e + 5 * k + 1) = nI f ∧ ν.1 85 (20 * e + 5 * k + 2) = nI t ∧ ν.1 85 (20 * e + 5 * k + 3) = nI b ∧ ν.1 85 (20 * e + 5 * k + 4) = nI s
def cP (μ ν : gs_M) (pl : Nat) : Prop := pl ≤ 6 ∧ μ.1 13 3 = nI pl ∧ μ.1 13 0 = 6 ∧ ν.1 78 26 = nI pl ∧ ∀ e, e < pl → ∃ r, pR μ ν e r
def cQ (μ ν : gs_M) : Prop := SS μ ν ∧ 1 ≤ (ν.1 78 29).toInt ∧ (ν.1 78 29).toInt ≤ 60
def cL (μ ν : gs_M) (st B : Nat) : Prop := (μ.1 26 1 = 0 ∧ ν.1 89 80 = 0) ∨ ∃ n, VR μ 26 (ν.1 89) (ν.1 83) (ν.2 78 33) st n B
def cI (μ ν : gs_M) (st B : Nat) : Prop := (μ.1 36 1 = 0 ∧ ν.1 78 36 = 0) ∨ (ν.1 78 36 = 1 ∧ ∃ n, VR μ 36 (ν.1 91) (ν.1 83) (ν.2 78 35) st n B)
def cC (μ ν : gs_M) : Prop := ∃ n, n ≤ 6 ∧ μ.1 66 2 = nI n ∧ ν.1 78 41 = nI n ∧ ∀ k, k < n → (μ.1 67 k = ν.1 92 k ∧ 0 ≤ (ν.1 92 k).toInt ∧ (ν.1 92 k).toInt ≤ 30) ∧ ∃ d : Nat, 1 ≤ d ∧ d ≤ 9 ∧ μ.1 68 k = nI d ∧ ν.1 93 k = nI d
def cO (μ ν : gs_M) : Prop := ∃ n, n ≤ 6 ∧ μ.1 69 2 = nI n ∧ ν.1 78 48 = nI n ∧ ∀ k, k < n → (∃ d : Nat, 1 ≤ d ∧ d ≤ 9 ∧ μ.1 70 k = nI d ∧ ν.1 96 k = nI d) ∧ μ.1 71 k = ν.1 97 k ∧ 0 ≤ (ν.1 97 k).toInt ∧ (ν.1 97 k).toInt ≤ 9999
def cG (μ ν : gs_M) : Prop := ∃ n, n ≤ 20 ∧ μ.1 0 15 = nI n ∧ ν.1 78 43 = nI n ∧ ∀ k, k < n → μ.1 72 k = ν.1 94 k ∧ -60 ≤ (ν.1 94 k).toInt ∧ (ν.1 94 k).toInt ≤ 60
def cE (μ ν : gs_M) : Prop := ∃ n, n ≤ 60 ∧ μ.1 73 1 = nI n ∧ ν.1 78 45 = nI n ∧ ∀ k, k < n → μ.1 74 k = ν.1 95 k
/-- a rule that was told: a reading of the class's that made this code of this text -/
def rO (μ ν : gs_M) (r : Nat) : Prop := ∃ (μ0 μ1 : gs_M) (n m : Nat), n ≤ 160 ∧ m ≤ 160 ∧ μ0.1 1 1 = nI n ∧ D_X5_readAll μ0 = some (-1, μ1) ∧ μ1.1 5 4 = nI m ∧ μ.1 23 r = nI m ∧ (∀ j, j < m → μ.1 (19 + r) j = μ1.1 6 j) ∧ ν.1 81 r = nI n ∧ ∀ j, j < n → ∃ s, 1 ≤ s ∧ s ≤ 255 ∧ μ0.1 2 j = nI s ∧ ν.1 80 (160 * r + j) = by8 s
def cR (μ ν : gs_M) : Prop := ∃ n, n ≤ 4 ∧ μ.1 16 1 = nI n ∧ ν.1 78 7 = nI n ∧ ∀ r, r < n → rO μ ν r
def RT (i : Nat) (μ ν : gs_M) : Prop := cT μ ν ∧ (∃ st, cU μ ν st ∧ cL μ ν st (20 * i) ∧ cI μ ν st (20 * i)) ∧ (∃ sh, cH μ ν sh) ∧ (∃ pl, cP μ ν pl) ∧ cQ μ ν ∧ cC μ ν ∧ cO μ ν ∧ cG μ ν ∧ cE μ ν ∧ cR μ ν
/-! each part depends on its places alone -/
theorem cT.go {μ ν μ' ν' : gs_M} (h : cT μ ν) (a1 : μ'.1 1 = μ.1 1) (a2 : μ'.1 2 = μ.1 2) (b1 : ν'.1 78 6 = ν.1 78 6) (b2 : ν'.1 79 = ν.1 79) : cT μ' ν' := by
  unfold cT at *; rw [a1, a2, b1, b2]; exact h
theorem cU.go {μ ν μ' ν' : gs_M} {st : Nat} (h : cU μ ν st) (a1 : μ'.1 7 = μ.1 7) (a2 : μ'.1 8 = μ.1 8) (a3 : μ'.1 9 = μ.1 9) (b1 : ν'.1 78 24 = ν.1 78 24) (b2 : ν'.1 83 = ν.1 83) : cU μ' ν' st := by
  unfold cU at *; rw [a1, a2, a3, b1, b2]; exact h
theorem cH.go {μ ν μ' ν' : gs_M} {sh : Nat} (h : cH μ ν sh) (a1 : μ'.1 10 = μ.1 10) (a2 : μ'.1 11 = μ.1 11) (a3 : μ'.1 12 = μ.1 12) (b1 : ν'.1 78 25 = ν.1 78 25) (b2 : ν'.1 84 = ν.1 84) (b3 : ν'.1 86 = ν.1 86) : cH μ' ν' sh := by
  unfold cH hR at *; rw [a1, a2, a3, b1, b2, b3]; exact h
theorem cP.go {μ ν μ' ν' : gs_M} {sh : Nat} (h : cP μ ν sh) (a1 : μ'.1 13 = μ.1 13) (a2 : μ'.1 14 = μ.1 14) (a3 : μ'.1 15 = μ.1 15) (b1 : ν'.1 78 26 = ν.1 78 26) (b2 : ν'.1 85 = ν.1 85) (b3 : ν'.1 87 = ν.1 87) : cP μ' ν' sh := by
  unfold cP pR at *; rw [a1, a2, a3, b1, b2, b3]; exact h
theorem cQ.go {μ ν μ' ν' : gs_M} (h : cQ μ ν) (a1 : μ'.1 25 = μ.1 25) (b : ∀ j, 27 ≤ j → j ≤ 29 → ν'.1 78 j = ν.1 78 j) : cQ μ' ν' := by
  unfold cQ SS at *
  rw [a1, b 27 (by omega) (by omega), b 28 (by omega) (by omega), b 29 (by omega) (by omega)]; exact h
theorem VR.cm {μ μ' : gs_M} {v st n B : Nat} {w w' p p' : Nat → Int32} {d d' : Int64} (h : VR μ v w p d st n B) (hm : ∀ b, v ≤ b → b < v + 10 → μ'.1 b = μ.1 b) (hl : μ'.2 v = μ.2 v) (hw : ∀ j, j < 81 → w' j = w j) (hp : p' = p) (hd : d' = d) : VR μ' v w' p' d' st n B := by
  subst hp hd
  refine VR.row ?_ hw
  obtain ⟨hC, ht, hdy, hlo, hlo2, hdb, hdr⟩ := h
  refine ⟨hC.go (by rw [hm v (by omega) (by omega)]) (fun b h1 h2 => hm b (by omega) h2) (fun _ _ => rfl) rfl, ?_, ?_, ?_, hlo2, hdb, ?_⟩
  · rw [hm v (by omega) (by omega)]; exact ht
  · rw [hm v (by omega) (by omega)]; exact hdy
  · rw [hm v (by omega) (by omega)]; exact hlo
  · rw [hl]; exact hdr
theorem cL.go {μ ν μ' ν' : gs_M} {st B B' : Nat} (h : cL μ ν st B) (hB : B ≤ B') (hm : ∀ b, 26 ≤ b → b < 36 → μ'.1 b = μ.1 b) (hl : μ'.2 26 = μ.2 26) (hw : ∀ j, j < 81 → ν'.1 89 j = ν.1 89 j) (hp : ν'.1 83 = ν.1 83) (hd : ν'.2 78 33 = ν.2 78 33) : cL μ' ν' st B' := by
  rcases h with ⟨h1, h2⟩ | ⟨n, h⟩
  · exact Or.inl ⟨by rw [hm 26 (by omega) (by omega)]; exact h1, by rw [hw 80 (by omega)]; exact h2⟩
  · exact Or.inr ⟨n, (h.cm hm hl hw hp hd).mono hB (Nat.le_refl _)⟩
theorem cI.go {μ ν μ' ν' : gs_M} {st B B' : Nat} (h : cI μ ν st B) (hB : B ≤ B') (hm : ∀ b, 36 ≤ b → b < 46 → μ'.1 b = μ.1 b) (hl : μ'.2 36 = μ.2 36) (hw : ν'.1 91 = ν.1 91) (h36 : ν'.1 78 36 = ν.1 78 36) (hp : ν'.1 83 = ν.1 83) (hd : ν'.2 78 35 = ν.2 78 35) : cI μ' ν' st B' := by
  rcases h with ⟨h1, h2⟩ | ⟨h0, n, h⟩
  · exact Or.inl ⟨by rw [hm 36 (by omega) (by omega)]; exact h1, by rw [h36]; exact h2⟩
  · exact Or.inr ⟨by rw [h36]; exact h0, n, (h.cm hm hl (fun j _ => by rw [hw]) hp hd).mono hB (Nat.le_refl _)⟩
theorem cC.go {μ ν μ' ν' : gs_M} (h : cC μ ν) (a1 : μ'.1 66 = μ.1 66) (a2 : μ'.1 67 = μ.1 67) (a3 : μ'.1 68 = μ.1 68) (b1 : ν'.1 78 41 = ν.1 78 41) (b2 : ν'.1 92 = ν.1 92) (b3 : ν'.1 93 = ν.1 93) : cC μ' ν' := by
  unfold cC at *; rw [a1, a2, a3, b1, b2, b3]; exact h
theorem cO.go {μ ν μ' ν' : gs_M} (h : cO μ ν) (a1 : μ'.1 69 = μ.1 69) (a2 : μ'.1 70 = μ.1 70) (a3 : μ'.1 71 = μ.1 71) (b1 : ν'.1 78 48 = ν.1 78 48) (b2 : ν'.1 96 = ν.1 96) (b3 : ν'.1 97 = ν.1 97) : cO μ' ν' := by
  unfold cO at *; rw [a1, a2, a3, b1, b2, b3]; exact h
theorem cG.go {μ ν μ' ν' : gs_M} (h : cG μ ν) (a1 : μ'.1 0 15 = μ.1 0 15) (a2 : μ'.1 72 = μ.1 72) (b1 : ν'.1 78 43 = ν.1 78 43) (b2 : ν'.1 94 = ν.1 94) : cG μ' ν' := by
  unfold cG at *; rw [a1, a2, b1, b2]; exact h
theorem cE.go {μ ν μ' ν' : gs_M} (h : cE μ ν) (a1 : μ'.1 73 = μ.1 73) (a2 : μ'.1 74 = μ.1 74) (b1 : ν'.1 78 45 = ν.1 78 45) (b2 : ν'.1 95 = ν.1 95) : cE μ' ν' := by
  unfold cE at *; rw [a1, a2, b1, b2]; exact h
theorem rO.go {μ ν μ' ν' : gs_M} {r : Nat} (h : rO μ ν r) (a1 : μ'.1 23 r = μ.1 23 r) (a2 : μ'.1 (19 + r) = μ.1 (19 + r)) (b1 : ν'.1 81 r = ν.1 81 r) (b2 : ∀ j, j < 160 → ν'.1 80 (160 * r + j) = ν.1 80 (160 * r + j)) : rO μ' ν' r := by
  obtain ⟨μ0, μ1, n, m, h1, h2, h3, h4, h5, h6, h7, h8, h9⟩ := h
  exact ⟨μ0, μ1, n, m, h1, h2, h3, h4, h5, a1.trans h6, fun j hj => by rw [a2]; exact h7 j hj, b1.trans h8, fun j hj => by rw [b2 j (by omega)]; exact h9 j hj⟩
theorem cR.go {μ ν μ' ν' : gs_M} (h : cR μ ν) (a1 : μ'.1 16 1 = μ.1 16 1) (a2 : ∀ b, 19 ≤ b → b ≤ 23 → μ'.1 b = μ.1 b) (b1 : ν'.1 78 7 = ν.1 78 7) (b2 : ν'.1 80 = ν.1 80) (b3 : ν'.1 81 = ν.1 81) : cR μ' ν' := by
  obtain ⟨n, h1, h2, h3, h4⟩ := h
  exact ⟨n, h1, a1.trans h2, b1.trans h3, fun r hr => (h4 r hr).go (by rw [a2 23 (by omega) (by omega)]) (a2 _ (by omega) (by omega)) (by rw [b3]) (fun j _ => by rw [b2])⟩
/-- scratch: what no answer depends on -/
def kC (μ μ' : gs_M) : Prop := (∀ b, (b < 3 ∨ (7 ≤ b ∧ b < 16) ∨ (19 ≤ b ∧ b < 24) ∨ (25 ≤ b ∧ b < 46) ∨ (66 ≤ b ∧ b < 75)) → μ'.1 b = μ.1 b) ∧ μ'.1 16 1 = μ.1 16 1 ∧ μ'.2 26 = μ.2 26 ∧ μ'.2 36 = μ.2 36
def kM (ν ν' : gs_M) : Prop := (∀ b, (79 ≤ b ∧ b < 82) ∨ (83 ≤ b ∧ b < 89) ∨ (91 ≤ b ∧ b < 98) → ν'.1 b = ν.1 b) ∧ (∀ j, j < 81 → ν'.1 89 j = ν.1 89 j) ∧ (∀ j, j = 6 ∨ j = 7 ∨ (24 ≤ j ∧ j < 30) ∨ j = 36 ∨ j = 41 ∨ j = 43 ∨ j = 45 ∨ j = 48 → ν'.1 78 j = ν.1 78 j) ∧ ν'.2 78 33 = ν.2 78 33 ∧ ν'.2 78 35 = ν.2 78 35
theorem kC.refl {μ : gs_M} : kC μ μ := ⟨fun _ _ => rfl, rfl, rfl, rfl⟩
theorem kM.refl {μ : gs_M} : kM μ μ := ⟨fun _ _ => rfl, fun _ _ => rfl, fun _ _ => rfl, rfl, rfl⟩
theorem kC.trans {μ0 μ1 μ2 : gs_M} (h : kC μ0 μ1) (g : kC μ1 μ2) : kC μ0 μ2 := ⟨fun b hb => (g.1 b hb).trans (h.1 b hb), g.2.1.trans h.2.1, g.2.2.1.trans h.2.2.1, g.2.2.2.trans h.2.2.2⟩
theorem kM.trans {μ0 μ1 μ2 : gs_M} (h : kM μ0 μ1) (g : kM μ1 μ2) : kM μ0 μ2 := ⟨fun b hb => (g.1 b hb).trans (h.1 b hb), fun b hb => (g.2.1 b hb).trans (h.2.1 b hb), fun b hb => (g.2.2.1 b hb).trans (h.2.2.1 b hb), g.2.2.2.1.trans h.2.2.2.1, g.2.2.2.2.trans h.2.2.2.2⟩
theorem RT.go {i i' : Nat} {μ ν μ' ν' : gs_M} (h : RT i μ ν) (hi : i ≤ i') (hc : kC μ μ') (hm : kM ν ν') : RT i' μ' ν' := by
  obtain ⟨h1, ⟨st, h2, h3, h4⟩, ⟨sh, h5⟩, ⟨pl, h6⟩, h7, h8, h9, h10, h11, h12⟩ := h
  obtain ⟨c1, c2, c3, c4⟩ := hc
  obtain ⟨m1, m2, m3, m4, m5⟩ := hm
  refine ⟨h1.go (c1 _ (by omega)) (c1 _ (by omega)) (m3 _ (by omega)) (m1 _ (by omega)), ⟨st, h2.go (c1 _ (by omega)) (c1 _ (by omega)) (c1 _ (by omega)) (m3 _ (by omega)) (m1 _ (by omega)), h3.go (by omega) (fun b _ _ => c1 b (by omega)) c3 m2 (m1 _ (by omega)) m4, h4.go (by omega) (fun b _ _ => c1 b (by omega)) c4 (m1 _ (by omega)) (m3 _ (by omega)) (m1 _ (by omega)) m5⟩, ⟨sh, h5.go (c1 _ (by omega)) (c1 _ (by omega)) (c1 _ (by omega)) (m3 _ (by omega)) (m1 _ (by omega)) (m1 _ (by omega))⟩, ⟨pl, h6.go (c1 _ (by omega)) (c1 _ (by omega)) (c1 _ (by omega)) (m3 _ (by omega)) (m1 _ (by omega)) (m1 _ (by omega))⟩, h7.go (c1 _ (by omega)) (fun j j1 j2 => m3 j (by omega)), h8.go (c1 _ (by omega)) (c1 _ (by omega)) (c1 _ (by omega)) (m3 _ (by omega)) (m1 _ (by omega)) (m1 _ (by omega)), h9.go (c1 _ (by omega)) (c1 _ (by omega)) (c1 _ (by omega)) (m3 _ (by omega)) (m1 _ (by omega)) (m1 _ (by omega)), h10.go (by rw [c1 0 (by omega)]) (c1 _ (by omega)) (m3 _ (by omega)) (m1 _ (by omega)), h11.go (c1 _ (by omega)) (c1 _ (by omega)) (m3 _ (by omega)) (m1 _ (by omega)), h12.go c2 (fun b _ _ => c1 b (by omega)) (m3 _ (by omega)) (m1 _ (by omega)) (m1 _ (by omega))⟩
/-! one memory -/
def eC (μ μ' : gs_M) : Prop := ∀ b, 78 ≤ b → μ'.1 b = μ.1 b ∧ μ'.2 b = μ.2 b
def eM (ν ν' : gs_M) : Prop := ∀ b, b < 78 → ν'.1 b = ν.1 b ∧ ν'.2 b = ν.2 b
theorem eC.refl {μ : gs_M} : eC μ μ := fun _ _ => ⟨rfl, rfl⟩
theorem eM.refl {μ : gs_M} : eM μ μ := fun _ _ => ⟨rfl, rfl⟩
theorem eC.trans {μ0 μ1 μ2 : gs_M} (h : eC μ0 μ1) (g : eC μ1 μ2) : eC μ0 μ2 := fun b hb => ⟨(g b hb).1.trans (h b hb).1, (g b hb).2.trans (h b hb).2⟩
theorem eM.trans {μ0 μ1 μ2 : gs_M} (h : eM μ0 μ1) (g : eM μ1 μ2) : eM μ0 μ2 := fun b hb => ⟨(g b hb).1.trans (h b hb).1, (g b hb).2.trans (h b hb).2⟩
def CALLS (i : Nat) (Dc Dm : gs_M → Option (Int32 × gs_M)) : Prop := ∀ μ ν, RT i μ ν → ∃ (r : Int32) (μ' ν' : gs_M), Dc μ = some (r, μ') ∧ Dm ν = some (r, ν') ∧ RT (i + 8) μ' ν' ∧ eC μ μ' ∧ eM ν ν'
def Rel (i : Nat) (μ : gs_M) : Prop := RT i μ μ
theorem one_e {i : Nat} {Dc Dm : gs_M → Option (Int32 × gs_M)} (h : CALLS i Dc Dm) {μ : gs_M} (hR : Rel i μ) : ∃ (r : Int32) (μ1 μ2 : gs_M), Dc μ = some (r, μ1) ∧ Dm μ1 = some (r, μ2) ∧ Rel (i + 8) μ2 := by
  obtain ⟨r, μ1, ν1, a1, a2, a3, a4, a5⟩ := h μ μ hR
  have hR2 : RT i μ μ1 := hR.go (Nat.le_refl _) kC.refl ⟨fun b hb => (a4 b (by omega)).1, fun j _ => by rw [(a4 89 (by omega)).1], fun j _ => by rw [(a4 78 (by omega)).1], by rw [(a4 78 (by omega)).2], by rw [(a4 78 (by omega)).2]⟩
  obtain ⟨r2, μ3, ν3, b1, b2, b3, b4, b5⟩ := h μ μ1 hR2
  rw [a1] at b1
  cases b1
  exact ⟨r, μ1, ν3, a1, b2, b3.go (Nat.le_refl _) ⟨fun b hb => (b5 b (by omega)).1, by rw [(b5 16 (by omega)).1], (b5 26 (by omega)).2, (b5 36 (by omega)).2⟩ kM.refl⟩
