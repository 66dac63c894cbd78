/-! tables that grow -/
theorem HF.p {f w p p' : Nat → Int32} {k c o : Nat} (h : HF f w p k c o) (hp : ∀ j, j < 5 → p' (5 * o + j) = p (5 * o + j)) : HF f w p' k c o := by
  unfold HF at *
  rw [show p' (5 * o) = p (5 * o) from hp 0 (by omega), hp 1 (by omega), hp 2 (by omega), hp 3 (by omega), hp 4 (by omega)]
  exact h
theorem VR.p {μ : gs_M} {v st n B : Nat} {w p p' : Nat → Int32} {d : Int64} (h : VR μ v w p d st n B) (hp : ∀ j, j < 5 * st → p' j = p j) : VR μ v w p' d st n B := by
  obtain ⟨⟨n1, n4, hs, h76, hl, hH⟩, hr⟩ := h
  refine ⟨⟨n1, n4, hs, h76, hl, fun k hk => ?_⟩, hr⟩
  obtain ⟨⟨c, o, ho, hF, hU⟩, hb⟩ := hH k hk
  exact ⟨⟨c, o, ho, hF.p (fun j hj => hp _ (by omega)), hU⟩, hb⟩
theorem cL.tab {μ ν μ' ν' : gs_M} {st st' B B' : Nat} (h : cL μ ν st B) (hst : st ≤ st') (hB : B ≤ B') (hm : ∀ b, 26 ≤ b → b < 36 → μ'.1 b = μ.1 b) (hl : μ'.2 26 = μ.2 26) (hw : ∀ j, j < 81 → ν'.1 89 j = ν.1 89 j) (hp : ∀ j, j < 5 * st → ν'.1 83 j = ν.1 83 j) (hd : ν'.2 78 33 = ν.2 78 33) : cL μ' ν' st' B' := by
  rcases h with ⟨h1, h2⟩ | ⟨n, h⟩
  · exact Or.inl ⟨by rw [hm 26 (by omega) (by omega)]; exact h1, by rw [hw 80 (by omega)]; exact h2⟩
  · exact Or.inr ⟨n, ((h.cm hm hl hw rfl hd).p hp).mono hB hst⟩
theorem cI.tab {μ ν μ' ν' : gs_M} {st st' B B' : Nat} (h : cI μ ν st B) (hst : st ≤ st') (hB : B ≤ B') (hm : ∀ b, 36 ≤ b → b < 46 → μ'.1 b = μ.1 b) (hl : μ'.2 36 = μ.2 36) (hw : ν'.1 91 = ν.1 91) (h36 : ν'.1 78 36 = ν.1 78 36) (hp : ∀ j, j < 5 * st → ν'.1 83 j = ν.1 83 j) (hd : ν'.2 78 35 = ν.2 78 35) : cI μ' ν' st' B' := by
  rcases h with ⟨h1, h2⟩ | ⟨h0, n, h⟩
  · exact Or.inl ⟨by rw [hm 36 (by omega) (by omega)]; exact h1, by rw [h36]; exact h2⟩
  · exact Or.inr ⟨by rw [h36]; exact h0, n, ((h.cm hm hl (fun j _ => by rw [hw]) rfl hd).p hp).mono hB hst⟩
/-- entries that were told before stay -/
def uE (μ ν : gs_M) (e : Nat) : Prop := μ.1 8 e = 1 ∧ (∀ j, j < 5 → μ.1 9 (20 * e + j) = ν.1 83 (5 * e + j)) ∧ ∃ r s m l w : Nat, r ≤ 20 ∧ s ≤ 30 ∧ m ≤ 30 ∧ l ≤ 999 ∧ 1 ≤ w ∧ w ≤ 9 ∧ ν.1 83 (5 * e) = nI r ∧ ν.1 83 (5 * e + 1) = nI s ∧ ν.1 83 (5 * e + 2) = nI m ∧ ν.1 83 (5 * e + 3) = nI l ∧ ν.1 83 (5 * e + 4) = nI w
theorem uE.go {μ ν μ' ν' : gs_M} {e : Nat} (h : uE μ ν e) (a : μ'.1 8 e = μ.1 8 e) (b : ∀ j, j < 5 → μ'.1 9 (20 * e + j) = μ.1 9 (20 * e + j)) (c : ∀ j, j < 5 → ν'.1 83 (5 * e + j) = ν.1 83 (5 * e + j)) : uE μ' ν' e := by
  obtain ⟨h1, h2, r, s, m, l, w, h3⟩ := h
  refine ⟨a.trans h1, fun j hj => by rw [b j hj, c j hj]; exact h2 j hj, r, s, m, l, w, ?_⟩
  rw [show ν'.1 83 (5 * e) = ν.1 83 (5 * e) from c 0 (by omega), c 1 (by omega), c 2 (by omega), c 3 (by omega), c 4 (by omega)]
  exact h3
theorem cU.tab {μ ν μ' ν' : gs_M} {st : Nat} (h : cU μ ν st) (a1 : μ'.1 7 = μ.1 7) (a2 : μ'.1 8 = μ.1 8) (a3 : μ'.1 9 = μ.1 9) (b1 : ν'.1 78 24 = ν.1 78 24) (b2 : ∀ j, j < 5 * st → ν'.1 83 j = ν.1 83 j) : cU μ' ν' st := by
  obtain ⟨h1, h2, h3, h4, h5⟩ := h
  refine ⟨h1, by rw [a1]; exact h2, by rw [a1]; exact h3, by rw [b1]; exact h4, fun e he => ?_⟩
  exact uE.go (h5 e he) (by rw [a2]) (fun j _ => by rw [a3]) (fun j hj => b2 _ (by omega))
theorem hR.go {μ ν μ' ν' : gs_M} {e r : Nat} (h : hR μ ν e r) (a : μ'.1 11 e = μ.1 11 e) (b : ν'.1 86 e = ν.1 86 e) (c : ∀ j, j < 20 → μ'.1 12 (20 * e + j) = μ.1 12 (20 * e + j)) (d : ∀ j, j < 20 → ν'.1 84 (20 * e + j) = ν.1 84 (20 * e + j)) : hR μ' ν' e r := by
  obtain ⟨h1, h2, h3, h4, h5⟩ := h
  refine ⟨h1, h2, a.trans h3, b.trans h4, fun k hk => ?_⟩
  obtain ⟨q1, cc, hh, q2⟩ := h5 k hk
  refine ⟨fun j hj => ?_, cc, hh, ?_⟩
  · rw [Nat.add_assoc, c _ (by omega), d _ (by omega), ← Nat.add_assoc]
    exact q1 j hj
  · rw [d (5 * k) (by omega), Nat.add_assoc, d (5 * k + 1) (by omega), ← Nat.add_assoc]
    exact q2
theorem cH.tab {μ ν μ' ν' : gs_M} {sh : Nat} (h : cH μ ν sh) (a1 : μ'.1 10 = μ.1 10) (a2 : μ'.1 11 = μ.1 11) (a3 : μ'.1 12 = μ.1 12) (b1 : ν'.1 78 25 = ν.1 78 25) (b2 : ∀ j, j < 20 * sh → ν'.1 84 j = ν.1 84 j) (b3 : ∀ j, j < sh → ν'.1 86 j = ν.1 86 j) : cH μ' ν' sh := by
  obtain ⟨h1, h2, h3, h4, h5⟩ := h
  refine ⟨h1, by rw [a1]; exact h2, by rw [a1]; exact h3, by rw [b1]; exact h4, fun e he => ?_⟩
  obtain ⟨r, hr⟩ := h5 e he
  exact ⟨r, hr.go (by rw [a2]) (b3 e he) (fun j _ => by rw [a3]) (fun j hj => b2 _ (by omega))⟩
theorem pR.go {μ ν μ' ν' : gs_M} {e r : Nat} (h : pR μ ν e r) (a : μ'.1 14 e = μ.1 14 e) (b : ν'.1 87 e = ν.1 87 e) (c : ∀ j, j < 20 → μ'.1 15 (20 * e + j) = μ.1 15 (20 * e + j)) (d : ∀ j, j < 20 → ν'.1 85 (20 * e + j) = ν.1 85 (20 * e + j)) : pR μ' ν' e r := by
  obtain ⟨h1, h2, h3, h4, h5⟩ := h
  refine ⟨h1, h2, a.trans h3, b.trans h4, fun k hk => ?_⟩
  obtain ⟨q1, g, f, t, b, s, q2⟩ := h5 k hk
  refine ⟨fun j hj => ?_, g, f, t, b, s, ?_⟩
  · rw [Nat.add_assoc, c _ (by omega), d _ (by omega), ← Nat.add_assoc]
    exact q1 j hj
  · rw [d (5 * k) (by omega)]
    rw [show ν'.1 85 (20 * e + 5 * k + 1) = ν.1 85 (20 * e + 5 * k + 1) by rw [Nat.add_assoc]; exact d _ (by omega), show ν'.1 85 (20 * e + 5 * k + 2) = ν.1 85 (20 * e + 5 * k + 2) by rw [Nat.add_assoc]; exact d _ (by omega), show ν'.1 85 (20 * e + 5 * k + 3) = ν.1 85 (20 * e + 5 * k + 3) by rw [Nat.add_assoc]; exact d _ (by omega), show ν'.1 85 (20 * e + 5 * k + 4) = ν.1 85 (20 * e + 5 * k + 4) by rw [Nat.add_assoc]; exact d _ (by omega)]
    exact q2
theorem cP.tab {μ ν μ' ν' : gs_M} {sh : Nat} (h : cP μ ν sh) (a1 : μ'.1 13 = μ.1 13) (a2 : μ'.1 14 = μ.1 14) (a3 : μ'.1 15 = μ.1 15) (b1 : ν'.1 78 26 = ν.1 78 26) (b2 : ∀ j, j < 20 * sh → ν'.1 85 j = ν.1 85 j) (b3 : ∀ j, j < sh → ν'.1 87 j = ν.1 87 j) : cP μ' ν' sh := by
  obtain ⟨h1, h2, h3, h4, h5⟩ := h
  refine ⟨h1, by rw [a1]; exact h2, by rw [a1]; exact h3, by rw [b1]; exact h4, fun e he => ?_⟩
  obtain ⟨r, hr⟩ := h5 e he
  exact ⟨r, hr.go (by rw [a2]) (b3 e he) (fun j _ => by rw [a3]) (fun j hj => b2 _ (by omega))⟩
/-- the model's memory but for what follows the told rows -/
def kT (ν ν' : gs_M) : Prop := (∀ b, (79 ≤ b ∧ b < 82) ∨ (91 ≤ b ∧ b < 98) → ν'.1 b = ν.1 b) ∧ (∀ j, j < 81 → ν'.1 89 j = ν.1 89 j) ∧ (∀ j, j = 6 ∨ j = 7 ∨ (24 ≤ j ∧ j < 30) ∨ j = 36 ∨ j = 41 ∨ j = 43 ∨ j = 45 ∨ j = 48 → ν'.1 78 j = ν.1 78 j) ∧ ν'.2 = ν.2 ∧ (∀ j, j < 30 → ν'.1 83 j = ν.1 83 j) ∧ (∀ j, j < 60 → ν'.1 84 j = ν.1 84 j) ∧ (∀ j, j < 120 → ν'.1 85 j = ν.1 85 j) ∧ (∀ j, j < 3 → ν'.1 86 j = ν.1 86 j) ∧ (∀ j, j < 6 → ν'.1 87 j = ν.1 87 j)
theorem RT.tab {i i' : Nat} {μ ν μ' ν' : gs_M} (h : RT i μ ν) (hi : i ≤ i') (hc : kC μ μ') (hm : kT ν ν') : RT i' μ' ν' := by
  obtain ⟨h1, ⟨st, h2, h3, h4⟩, ⟨sh, h5⟩, ⟨pl, h6⟩, h7, h8, h9, h10, h11, h12⟩ := h
  obtain ⟨c1, c2, c3, c4⟩ := hc
  obtain ⟨m1, m2, m3, m4, m5, m6, m7, m8, m9⟩ := hm
  have st6 := h2.1
  have sh3 := h5.1
  have pl6 := h6.1
  refine ⟨h1.go (c1 _ (by omega)) (c1 _ (by omega)) (m3 _ (by omega)) (m1 _ (by omega)), ⟨st, h2.tab (c1 _ (by omega)) (c1 _ (by omega)) (c1 _ (by omega)) (m3 _ (by omega)) (fun j hj => m5 j (by omega)), h3.tab (Nat.le_refl _) (by omega) (fun b _ _ => c1 b (by omega)) c3 m2 (fun j hj => m5 j (by omega)) (by rw [m4]), h4.tab (Nat.le_refl _) (by omega) (fun b _ _ => c1 b (by omega)) c4 (m1 _ (by omega)) (m3 _ (by omega)) (fun j hj => m5 j (by omega)) (by rw [m4])⟩, ⟨sh, h5.tab (c1 _ (by omega)) (c1 _ (by omega)) (c1 _ (by omega)) (m3 _ (by omega)) (fun j hj => m6 j (by omega)) (fun j hj => m8 j (by omega))⟩, ⟨pl, h6.tab (c1 _ (by omega)) (c1 _ (by omega)) (c1 _ (by omega)) (m3 _ (by omega)) (fun j hj => m7 j (by omega)) (fun j hj => m9 j (by omega))⟩, h7.go (c1 _ (by omega)) (fun j j1 j2 => m3 j (by omega)), h8.go (c1 _ (by omega)) (c1 _ (by omega)) (c1 _ (by omega)) (m3 _ (by omega)) (m1 _ (by omega)) (m1 _ (by omega)), h9.go (c1 _ (by omega)) (c1 _ (by omega)) (c1 _ (by omega)) (m3 _ (by omega)) (m1 _ (by omega)) (m1 _ (by omega)), h10.go (by rw [c1 0 (by omega)]) (c1 _ (by omega)) (m3 _ (by omega)) (m1 _ (by omega)), h11.go (c1 _ (by omega)) (c1 _ (by omega)) (m3 _ (by omega)) (m1 _ (by omega)), h12.go c2 (fun b _ _ => c1 b (by omega)) (m3 _ (by omega)) (m1 _ (by omega)) (m1 _ (by omega))⟩
theorem KM.t {k x : Nat} {ν ν' : gs_M} (hk : k ≤ 2) (hx : (if k = 1 then 3 else 6) ≤ x) (h : KM k x ν ν') : kT ν ν' := by
  obtain ⟨h1, h2, h3, h4, h5⟩ := h
  have o : ∀ b, b < 78 ∨ (79 ≤ b ∧ b < 83) ∨ 88 ≤ b → ν'.1 b = ν.1 b := fun b hb => h1 b (by omega) (by omega) (fun _ => by omega)
  have hk' : k = 0 ∨ k = 1 ∨ k = 2 := by omega
  refine ⟨fun b hb => o b (by omega), fun j _ => by rw [o 89 (by omega)], fun j hj => h2 j (by omega) (by omega) (by omega) (by omega) (by omega), h5, ?_, ?_, ?_, ?_, ?_⟩
  · intro j hj
    rcases hk' with rfl | rfl | rfl
    · have hx6 : 6 ≤ x := hx
      exact h3 j (Or.inl (by have : WD 0 = 5 := rfl; rw [this]; omega))
    · rw [h1 83 (by decide) (by decide) (by decide)]
    · rw [h1 83 (by decide) (by decide) (by decide)]
  · intro j hj
    rcases hk' with rfl | rfl | rfl
    · rw [h1 84 (by decide) (by decide) (by decide)]
    · have hx6 : 3 ≤ x := hx
      exact h3 j (Or.inl (by have : WD 1 = 20 := rfl; rw [this]; omega))
    · rw [h1 84 (by decide) (by decide) (by decide)]
  · intro j hj
    rcases hk' with rfl | rfl | rfl
    · rw [h1 85 (by decide) (by decide) (by decide)]
    · rw [h1 85 (by decide) (by decide) (by decide)]
    · have hx6 : 6 ≤ x := hx
      exact h3 j (Or.inl (by have : WD 2 = 20 := rfl; rw [this]; omega))
  · intro j hj
    rcases hk' with rfl | rfl | rfl
    · rw [h1 86 (by decide) (by decide) (by decide)]
    · have hx6 : 3 ≤ x := hx
      exact h4 (by decide) j (by omega)
    · rw [h1 86 (by decide) (by decide) (by decide)]
  · intro j hj
    rcases hk' with rfl | rfl | rfl
    · rw [h1 87 (by decide) (by decide) (by decide)]
    · rw [h1 87 (by decide) (by decide) (by decide)]
    · have hx6 : 6 ≤ x := hx
      exact h4 (by decide) j (by omega)
/-! what a text asks, for items -/
theorem mt_e {k : Nat} (hk : k ≤ 2) (ν : gs_M) : D_X12_mostTexts (nI k) ν = some (nI (if k = 1 then 3 else 6), ν) := by
  have : k = 0 ∨ k = 1 ∨ k = 2 := by omega
  rcases this with rfl | rfl | rfl <;> rfl
theorem in_k {k : Nat} {hi : Nat} (hk : k ≤ hi) (hh : hi ≤ 9) : inN (nI k) 0 (nI hi) = 1 :=
  inN_y (by rw [nI_toInt (by omega)]; exact Int.natCast_nonneg k) (by rw [nI_toInt (by omega), nI_toInt (by omega)]; omega)
theorem ft_e {k : Nat} {μ ν : gs_M} (hk : k ≤ 2) (hc : cT μ ν) : ∃ (f : Int32) (μ' ν' : gs_M), D_X2_readAll (nI k) μ = some (f, μ') ∧ D_X12_fault (nI k) ν = some (f, ν') ∧ (∀ b, b ≠ 3 → b ≠ 4 → μ'.1 b = μ.1 b) ∧ μ'.2 = μ.2 ∧ KM k (if k = 1 then 3 else 6) (sI ν 78 0 0) ν' := by
  have hc0 : cT μ (sI ν 78 0 0) := hc.go rfl rfl (sI_o _ _ (by decide)) (sI_n _ _ _ (by decide))
  obtain ⟨f, R, μ', ν', t1, t2, t3, t4, t5, t6, -⟩ := ra_e (x := if k = 1 then 3 else 6) hk (Nat.le_refl _) hc0
  refine ⟨f, μ', ν', t1, ?_, t4, t5, t6⟩
  unfold D_X12_fault
  rw [lt1, ii_e, bd_s, show (3 : Int32) = nI 3 from rfl, in_k (by omega) (by omega), if_neg z10, if_neg (show ¬ nI k = nI 3 by rw [nI_eq (by omega) (by omega)]; omega), mt_e hk, bd_s, t2, bd0_s, gI_d, t3]
theorem kC_3 {μ μ' : gs_M} (h : ∀ b, b ≠ 3 → b ≠ 4 → μ'.1 b = μ.1 b) (h2 : μ'.2 = μ.2) : kC μ μ' := ⟨fun b hb => h b (by omega) (by omega), by rw [h 16 (by decide) (by decide)], by rw [h2], by rw [h2]⟩
theorem kT.pre {ν ν' : gs_M} (h : kT (sI ν 78 0 0) ν') : kT ν ν' := by
  obtain ⟨m1, m2, m3, m4, m5, m6, m7, m8, m9⟩ := h
  have o : ∀ b, b ≠ 78 → (sI ν 78 0 0).1 b = ν.1 b := fun b hb => sI_n _ _ _ hb
  refine ⟨fun b hb => (m1 b hb).trans (o b (by omega)), fun j hj => (m2 j hj).trans (by rw [o 89 (by decide)]), fun j hj => (m3 j hj).trans (sI_o _ _ (by omega)), m4, fun j hj => (m5 j hj).trans (by rw [o 83 (by decide)]), fun j hj => (m6 j hj).trans (by rw [o 84 (by decide)]), fun j hj => (m7 j hj).trans (by rw [o 85 (by decide)]), fun j hj => (m8 j hj).trans (by rw [o 86 (by decide)]), fun j hj => (m9 j hj).trans (by rw [o 87 (by decide)])⟩
theorem KM.e {k x : Nat} {ν ν' : gs_M} (h : KM k x ν ν') : eM ν ν' := fun b hb => ⟨h.1 b (by omega) (by omega) (fun _ => by omega), by rw [h.2.2.2.2]⟩
theorem eM_0 (ν : gs_M) : eM ν (sI ν 78 0 0) := fun b hb => ⟨sI_n _ _ _ (by omega), rfl⟩
theorem k_fault_i {i k : Nat} (hk : k ≤ 2) : CALLS i (D_X11_fault (nI k)) (D_X12_fault (nI k)) := by
  intro μ ν h
  obtain ⟨f, μ', ν', t1, t2, t3, t4, t5⟩ := ft_e hk h.1
  refine ⟨f, μ', ν', ?_, t2, h.tab (by omega) (kC_3 t3 t4) ((t5.t hk (Nat.le_refl _)).pre), fun b hb => ⟨t3 b (by omega) (by omega), by rw [t4]⟩, (eM_0 ν).trans t5.e⟩
  unfold D_X11_fault
  rw [wi_e, bd_s, show (3 : Int32) = nI 3 from rfl, in_k (by omega) (by omega), if_neg z10, if_neg (show ¬ nI k = nI 3 by rw [nI_eq (by omega) (by omega)]; omega), t1, bd_s]
