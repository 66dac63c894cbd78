/-! set, end, feed -/
theorem k_end {i : Nat} (y : Int32) : CALLS i (D_X11_end y) (D_X12_end y) := by
  intro μ ν0 h0
  obtain ⟨ν, hν, h, he⟩ := th_e h0
  have h' := h
  obtain ⟨h1, ⟨st, h2, h3, h4⟩, ⟨sh, h5⟩, ⟨pl, h6⟩, h7, h8, h9, h10, h11, h12⟩ := h'
  obtain ⟨n, n1, t1, t2, t3⟩ := h1
  unfold D_X11_end D_X12_end
  simp only [lt1, ← hν, wi_e, bd_s, gI_d, t1, t2]
  by_cases z : y < 0
  · refine fin_e (r := 0) h he ?_ (by rw [if_pos z])
    rw [inN_z (Or.inl (by rw [ti_lt] at z; exact z)), if_pos rfl]
  · rw [if_neg z]
    by_cases z2 : y ≤ nI n
    · rw [if_pos z2]
      rw [ti_le, nI_toInt (by omega)] at z2
      rw [ti_lt, show (0 : Int32).toInt = 0 by decide] at z
      obtain ⟨m, m1, rfl⟩ := ti_nat (x := y) (m := n) (by omega) z2
      obtain ⟨μ', hμ'⟩ : ∃ μ', μ' = sI μ 1 1 (nI m) := ⟨_, rfl⟩
      obtain ⟨ν', hν'⟩ : ∃ ν', ν' = sI ν 78 6 (nI m) := ⟨_, rfl⟩
      have fc : ∀ b, b ≠ 1 → μ'.1 b = μ.1 b := fun b hb => by rw [hμ', sI_n _ _ _ hb]
      have fm : ∀ b, b ≠ 78 → ν'.1 b = ν.1 b := fun b hb => by rw [hν', sI_n _ _ _ hb]
      have f78 : ∀ j, j ≠ 6 → ν'.1 78 j = ν.1 78 j := fun j hj => by rw [hν', sI_s, pk_un hj]
      have fl : μ'.2 = μ.2 := by rw [hμ']; rfl
      have f2 : ν'.2 = ν.2 := by rw [hν']; rfl
      have nw : cT μ' ν' := ⟨m, by omega, by rw [hμ', sI_s, pk_us], by rw [hν', sI_s, pk_us], fun j hj => by rw [fc 2 (by decide), fm 79 (by decide)]; exact t3 j (by omega)⟩
      refine ⟨1, μ', ν', ?_, by rw [← hν'], ⟨nw, ⟨st, h2.go (fc 7 (by decide)) (fc 8 (by decide)) (fc 9 (by decide)) (f78 24 (by decide)) (fm 83 (by decide)), h3.go (by omega) (fun b _ _ => fc b (by omega)) (by rw [fl]) (fun j _ => by rw [fm 89 (by decide)]) (fm 83 (by decide)) (by rw [f2]), h4.go (by omega) (fun b _ _ => fc b (by omega)) (by rw [fl]) (fm 91 (by decide)) (f78 36 (by decide)) (fm 83 (by decide)) (by rw [f2])⟩, ⟨sh, h5.go (fc 10 (by decide)) (fc 11 (by decide)) (fc 12 (by decide)) (f78 25 (by decide)) (fm 84 (by decide)) (fm 86 (by decide))⟩, ⟨pl, h6.go (fc 13 (by decide)) (fc 14 (by decide)) (fc 15 (by decide)) (f78 26 (by decide)) (fm 85 (by decide)) (fm 87 (by decide))⟩, h7.go (fc 25 (by decide)) (fun j _ _ => f78 j (by omega)), h8.go (fc 66 (by decide)) (fc 67 (by decide)) (fc 68 (by decide)) (f78 41 (by decide)) (fm 92 (by decide)) (fm 93 (by decide)), h9.go (fc 69 (by decide)) (fc 70 (by decide)) (fc 71 (by decide)) (f78 48 (by decide)) (fm 96 (by decide)) (fm 97 (by decide)), h10.go (by rw [fc 0 (by decide)]) (fc 72 (by decide)) (f78 43 (by decide)) (fm 94 (by decide)), h11.go (fc 73 (by decide)) (fc 74 (by decide)) (f78 45 (by decide)) (fm 95 (by decide)), h12.go (by rw [fc 16 (by decide)]) (fun b _ _ => fc b (by omega)) (f78 7 (by decide)) (fm 80 (by decide)) (fm 81 (by decide))⟩, fun b hb => ⟨fc b (by omega), by rw [fl]⟩, eM.trans he (fun b hb => ⟨fm b (by omega), by rw [f2]⟩)⟩
      rw [inN_y (by rw [nI_toInt (by omega)]; show (0 : Int) ≤ _; omega) (by rw [nI_toInt (by omega), nI_toInt (by omega)]; omega), if_neg z10, ← hμ']
    · refine fin_e (r := 0) h he ?_ (by rw [if_neg z2])
      rw [inN_z (Or.inr (by rw [ti_le] at z2; omega)), if_pos rfl]
theorem k_set {i : Nat} (y0 y1 : Int32) : CALLS i (D_X11_set y0 y1) (D_X12_set y0 y1) := by
  intro μ ν0 h0
  obtain ⟨ν, hν, h, he⟩ := th_e h0
  have h' := h
  obtain ⟨h1, ⟨st, h2, h3, h4⟩, ⟨sh, h5⟩, ⟨pl, h6⟩, h7, h8, h9, h10, h11, h12⟩ := h'
  unfold D_X11_set D_X12_set B_X11_set_25 B_X11_set_53 B_X12_set_27 B_X12_set_50 B_X12_set_67 B_X12_set_77
  simp only [lt1, ← hν, wi_e, ii_e, bd_s]
  by_cases k0 : y0 = 0
  · subst k0
    rcases inN_k y1 (lo := 1) (hi := 9999) (L := 1) (H := 9999) (by decide) (by decide) with z | ⟨z, a0, b0⟩
    · exact fin_e (r := 0) h he (by simp [z]) (by simp [z, show inN 0 0 2 = 1 by decide])
    · obtain ⟨μ', hμ'⟩ : ∃ μ', μ' = sI μ 25 0 y1 := ⟨_, rfl⟩
      obtain ⟨ν', hν'⟩ : ∃ ν', ν' = sI ν 78 27 y1 := ⟨_, rfl⟩
      have fc : ∀ b, b ≠ 25 → μ'.1 b = μ.1 b := fun b hb => by rw [hμ', sI_n _ _ _ hb]
      have fm : ∀ b, b ≠ 78 → ν'.1 b = ν.1 b := fun b hb => by rw [hν', sI_n _ _ _ hb]
      have f78 : ∀ j, j ≠ 27 → ν'.1 78 j = ν.1 78 j := fun j hj => by rw [hν', sI_s, pk_un hj]
      have fl : μ'.2 = μ.2 := by rw [hμ']; rfl
      have f2 : ν'.2 = ν.2 := by rw [hν']; rfl
      have nw : cQ μ' ν' := by
        obtain ⟨⟨s1, s2, s3, s4, s5⟩, s6, s7⟩ := h7
        unfold cQ SS
        rw [hμ', hν', sI_s, sI_s]
        simp only [upd]
        simp only [Nat.reduceEqDiff, if_true, if_false]
        exact ⟨⟨trivial, s2, s3, ⟨a0, b0⟩, s5⟩, s6, s7⟩
      refine ⟨1, μ', ν', by simp [z, ← hμ'], by simp [z, show inN 0 0 2 = 1 by decide, ← hν'], ⟨h1.go (fc 1 (by decide)) (fc 2 (by decide)) (f78 6 (by decide)) (fm 79 (by decide)), ⟨st, h2.go (fc 7 (by decide)) (fc 8 (by decide)) (fc 9 (by decide)) (f78 24 (by decide)) (fm 83 (by decide)), h3.go (by omega) (fun b _ _ => fc b (by omega)) (by rw [fl]) (fun j _ => by rw [fm 89 (by decide)]) (fm 83 (by decide)) (by rw [f2]), h4.go (by omega) (fun b _ _ => fc b (by omega)) (by rw [fl]) (fm 91 (by decide)) (f78 36 (by decide)) (fm 83 (by decide)) (by rw [f2])⟩, ⟨sh, h5.go (fc 10 (by decide)) (fc 11 (by decide)) (fc 12 (by decide)) (f78 25 (by decide)) (fm 84 (by decide)) (fm 86 (by decide))⟩, ⟨pl, h6.go (fc 13 (by decide)) (fc 14 (by decide)) (fc 15 (by decide)) (f78 26 (by decide)) (fm 85 (by decide)) (fm 87 (by decide))⟩, nw, h8.go (fc 66 (by decide)) (fc 67 (by decide)) (fc 68 (by decide)) (f78 41 (by decide)) (fm 92 (by decide)) (fm 93 (by decide)), h9.go (fc 69 (by decide)) (fc 70 (by decide)) (fc 71 (by decide)) (f78 48 (by decide)) (fm 96 (by decide)) (fm 97 (by decide)), h10.go (by rw [fc 0 (by decide)]) (fc 72 (by decide)) (f78 43 (by decide)) (fm 94 (by decide)), h11.go (fc 73 (by decide)) (fc 74 (by decide)) (f78 45 (by decide)) (fm 95 (by decide)), h12.go (by rw [fc 16 (by decide)]) (fun b _ _ => fc b (by omega)) (f78 7 (by decide)) (fm 80 (by decide)) (fm 81 (by decide))⟩, fun b hb => ⟨fc b (by omega), by rw [fl]⟩, eM.trans he (fun b hb => ⟨fm b (by omega), by rw [f2]⟩)⟩
  by_cases k1 : y0 = 1
  · subst k1
    rcases inN_k y1 (lo := -999) (hi := 999) (L := -999) (H := 999) (by decide) (by decide) with z | ⟨z, a0, b0⟩
    · exact fin_e (r := 0) h he (by simp [z]) (by simp [z, show inN 1 0 2 = 1 by decide])
    · obtain ⟨μ', hμ'⟩ : ∃ μ', μ' = sI μ 25 1 y1 := ⟨_, rfl⟩
      obtain ⟨ν', hν'⟩ : ∃ ν', ν' = sI ν 78 28 y1 := ⟨_, rfl⟩
      have fc : ∀ b, b ≠ 25 → μ'.1 b = μ.1 b := fun b hb => by rw [hμ', sI_n _ _ _ hb]
      have fm : ∀ b, b ≠ 78 → ν'.1 b = ν.1 b := fun b hb => by rw [hν', sI_n _ _ _ hb]
      have f78 : ∀ j, j ≠ 28 → ν'.1 78 j = ν.1 78 j := fun j hj => by rw [hν', sI_s, pk_un hj]
      have fl : μ'.2 = μ.2 := by rw [hμ']; rfl
      have f2 : ν'.2 = ν.2 := by rw [hν']; rfl
      have nw : cQ μ' ν' := by
        obtain ⟨⟨s1, s2, s3, s4, s5⟩, s6, s7⟩ := h7
        unfold cQ SS
        rw [hμ', hν', sI_s, sI_s]
        simp only [upd]
        simp only [Nat.reduceEqDiff, if_true, if_false]
        exact ⟨⟨s1, trivial, s3, s4, ⟨a0, b0⟩⟩, s6, s7⟩
      refine ⟨1, μ', ν', by simp [z, ← hμ'], by simp [z, show inN 1 0 2 = 1 by decide, ← hν'], ⟨h1.go (fc 1 (by decide)) (fc 2 (by decide)) (f78 6 (by decide)) (fm 79 (by decide)), ⟨st, h2.go (fc 7 (by decide)) (fc 8 (by decide)) (fc 9 (by decide)) (f78 24 (by decide)) (fm 83 (by decide)), h3.go (by omega) (fun b _ _ => fc b (by omega)) (by rw [fl]) (fun j _ => by rw [fm 89 (by decide)]) (fm 83 (by decide)) (by rw [f2]), h4.go (by omega) (fun b _ _ => fc b (by omega)) (by rw [fl]) (fm 91 (by decide)) (f78 36 (by decide)) (fm 83 (by decide)) (by rw [f2])⟩, ⟨sh, h5.go (fc 10 (by decide)) (fc 11 (by decide)) (fc 12 (by decide)) (f78 25 (by decide)) (fm 84 (by decide)) (fm 86 (by decide))⟩, ⟨pl, h6.go (fc 13 (by decide)) (fc 14 (by decide)) (fc 15 (by decide)) (f78 26 (by decide)) (fm 85 (by decide)) (fm 87 (by decide))⟩, nw, h8.go (fc 66 (by decide)) (fc 67 (by decide)) (fc 68 (by decide)) (f78 41 (by decide)) (fm 92 (by decide)) (fm 93 (by decide)), h9.go (fc 69 (by decide)) (fc 70 (by decide)) (fc 71 (by decide)) (f78 48 (by decide)) (fm 96 (by decide)) (fm 97 (by decide)), h10.go (by rw [fc 0 (by decide)]) (fc 72 (by decide)) (f78 43 (by decide)) (fm 94 (by decide)), h11.go (fc 73 (by decide)) (fc 74 (by decide)) (f78 45 (by decide)) (fm 95 (by decide)), h12.go (by rw [fc 16 (by decide)]) (fun b _ _ => fc b (by omega)) (f78 7 (by decide)) (fm 80 (by decide)) (fm 81 (by decide))⟩, fun b hb => ⟨fc b (by omega), by rw [fl]⟩, eM.trans he (fun b hb => ⟨fm b (by omega), by rw [f2]⟩)⟩
  by_cases k2 : y0 = 2
  · subst k2
    rcases inN_k y1 (lo := 1) (hi := 60) (L := 1) (H := 60) (by decide) (by decide) with z | ⟨z, a0, b0⟩
    · exact fin_e (r := 0) h he (by simp [z]) (by simp [z, show inN 2 0 2 = 1 by decide])
    · obtain ⟨μ', hμ'⟩ : ∃ μ', μ' = sI μ 25 2 y1 := ⟨_, rfl⟩
      obtain ⟨ν', hν'⟩ : ∃ ν', ν' = sI ν 78 29 y1 := ⟨_, rfl⟩
      have fc : ∀ b, b ≠ 25 → μ'.1 b = μ.1 b := fun b hb => by rw [hμ', sI_n _ _ _ hb]
      have fm : ∀ b, b ≠ 78 → ν'.1 b = ν.1 b := fun b hb => by rw [hν', sI_n _ _ _ hb]
      have f78 : ∀ j, j ≠ 29 → ν'.1 78 j = ν.1 78 j := fun j hj => by rw [hν', sI_s, pk_un hj]
      have fl : μ'.2 = μ.2 := by rw [hμ']; rfl
      have f2 : ν'.2 = ν.2 := by rw [hν']; rfl
      have nw : cQ μ' ν' := by
        obtain ⟨⟨s1, s2, s3, s4, s5⟩, s6, s7⟩ := h7
        unfold cQ SS
        rw [hμ', hν', sI_s, sI_s]
        simp only [upd]
        simp only [Nat.reduceEqDiff, if_true, if_false]
        exact ⟨⟨s1, s2, trivial, s4, s5⟩, a0, b0⟩
      refine ⟨1, μ', ν', by simp [z, ← hμ'], by simp [z, show inN 2 0 2 = 1 by decide, ← hν'], ⟨h1.go (fc 1 (by decide)) (fc 2 (by decide)) (f78 6 (by decide)) (fm 79 (by decide)), ⟨st, h2.go (fc 7 (by decide)) (fc 8 (by decide)) (fc 9 (by decide)) (f78 24 (by decide)) (fm 83 (by decide)), h3.go (by omega) (fun b _ _ => fc b (by omega)) (by rw [fl]) (fun j _ => by rw [fm 89 (by decide)]) (fm 83 (by decide)) (by rw [f2]), h4.go (by omega) (fun b _ _ => fc b (by omega)) (by rw [fl]) (fm 91 (by decide)) (f78 36 (by decide)) (fm 83 (by decide)) (by rw [f2])⟩, ⟨sh, h5.go (fc 10 (by decide)) (fc 11 (by decide)) (fc 12 (by decide)) (f78 25 (by decide)) (fm 84 (by decide)) (fm 86 (by decide))⟩, ⟨pl, h6.go (fc 13 (by decide)) (fc 14 (by decide)) (fc 15 (by decide)) (f78 26 (by decide)) (fm 85 (by decide)) (fm 87 (by decide))⟩, nw, h8.go (fc 66 (by decide)) (fc 67 (by decide)) (fc 68 (by decide)) (f78 41 (by decide)) (fm 92 (by decide)) (fm 93 (by decide)), h9.go (fc 69 (by decide)) (fc 70 (by decide)) (fc 71 (by decide)) (f78 48 (by decide)) (fm 96 (by decide)) (fm 97 (by decide)), h10.go (by rw [fc 0 (by decide)]) (fc 72 (by decide)) (f78 43 (by decide)) (fm 94 (by decide)), h11.go (fc 73 (by decide)) (fc 74 (by decide)) (f78 45 (by decide)) (fm 95 (by decide)), h12.go (by rw [fc 16 (by decide)]) (fun b _ _ => fc b (by omega)) (f78 7 (by decide)) (fm 80 (by decide)) (fm 81 (by decide))⟩, fun b hb => ⟨fc b (by omega), by rw [fl]⟩, eM.trans he (fun b hb => ⟨fm b (by omega), by rw [f2]⟩)⟩
  have hz : inN y0 0 2 = 0 := by
    rcases inN_k y0 (lo := 0) (hi := 2) (L := 0) (H := 2) (by decide) (by decide) with z | ⟨z, a0, b0⟩
    · exact z
    · exfalso
      obtain ⟨j, hj, rfl⟩ := ti_nat (x := y0) (m := 2) (by omega) (by omega)
      obtain rfl | rfl | rfl : j = 0 ∨ j = 1 ∨ j = 2 := by omega
      · exact k0 rfl
      · exact k1 rfl
      · exact k2 rfl
  exact fin_e (r := 0) h he (by rw [if_neg k0, if_neg k1, if_neg k2]) (by rw [hz, if_pos rfl])
/-! words -/
def sv (t : Nat) : Int32 := 24 + -8 * nI t
theorem sv_s (t : Nat) : sv t + -8 = sv (t + 1) := by
  unfold sv
  rw [← nI_1]
  grind
theorem sv_p : ∀ t, t < 4 → ¬ sv t < 0 := by decide +kernel
def bb (x : Int32) (t : Nat) : Nat := (x.toBitVec.toNat / 2 ^ (24 - 8 * t)) % 256
theorem cb_e (x : Int32) {t : Nat} (ht : t < 4) : ((Int32.toUInt32 x >>> (Int32.toUInt32 (sv t) &&& Int32.toUInt32 31)).toInt32) &&& (255 : Int32) = nI (bb x t) := by
  rw [pk_and _ 8 (by decide)]
  unfold bb
  obtain rfl | rfl | rfl | rfl : t = 0 ∨ t = 1 ∨ t = 2 ∨ t = 3 := by omega
  · rw [pk_ushr x (sv 0) 24 (by decide)]
  · rw [pk_ushr x (sv 1) 16 (by decide)]
  · rw [pk_ushr x (sv 2) 8 (by decide)]
  · rw [pk_ushr x (sv 3) 0 (by decide)]
theorem tn_ti (x : Int32) : x.toBitVec.toNat < 2 ^ 32 ∧ (x.toInt = x.toBitVec.toNat ∨ x.toInt = (x.toBitVec.toNat : Int) - 2 ^ 32) := by
  refine ⟨x.toBitVec.isLt, ?_⟩
  have h : x.toInt = x.toBitVec.toInt := rfl
  rw [h, BitVec.toInt_eq_toNat_cond]
  split
  · exact Or.inl rfl
  · exact Or.inr (by omega)
theorem ms_e (x : Int32) {t : Nat} (ht : t < 4) : (x >>> (sv t &&& 31)).toBitVec.toNat % 256 = bb x t := by
  have hx := tn_ti x
  have hz := tn_ti (x >>> (sv t &&& 31))
  unfold bb
  obtain rfl | rfl | rfl | rfl : t = 0 ∨ t = 1 ∨ t = 2 ∨ t = 3 := by omega
  · have e := pk_shr x (sv 0 &&& 31) 24 (by decide)
    rw [Int.shiftRight_eq_div_pow] at e
    omega
  · have e := pk_shr x (sv 1 &&& 31) 16 (by decide)
    rw [Int.shiftRight_eq_div_pow] at e
    omega
  · have e := pk_shr x (sv 2 &&& 31) 8 (by decide)
    rw [Int.shiftRight_eq_div_pow] at e
    omega
  · have e := pk_shr x (sv 3 &&& 31) 0 (by decide)
    rw [Int.shiftRight_eq_div_pow] at e
    omega
theorem mb_e (x : Int32) {t : Nat} (ht : t < 4) : (x >>> (sv t &&& 31)) &&& (255 : Int32) = nI (bb x t) := by
  rw [pk_and _ 8 (by decide), ms_e x ht]
theorem by8_i {s : Nat} (h : s ≤ 255) : (by8 s).toInt = if s < 128 then (s : Int) else (s : Int) - 256 := by
  unfold by8
  by_cases z : s < 128
  · rw [if_pos z, if_pos z, nI_toInt (by omega)]
  · rw [if_neg z, if_neg z, show (256 : Int32) = nI 256 from rfl, pk_sub_toInt (by omega) (by omega)]
    omega
theorem nar_e (z : Int32) : vp_nar .byte (Int8.toInt32 (Int32.toInt8 z)) = by8 (z.toBitVec.toNat % 256) := by
  rw [pk_vb]
  apply ti_ext
  have hz := tn_ti z
  rw [by8_i (by omega), Int8.toInt_toInt32, Int32.toInt_toInt8, Int.bmod_def]
  split <;> split <;> omega
def cn (x : Int32) : Nat → Nat
  | 0 => 0
  | t + 1 => cn x t + (if bb x t = 0 then 0 else 1)
theorem cn_b (x : Int32) : ∀ t, cn x t ≤ t
  | 0 => Nat.le_refl _
  | t + 1 => by
    show cn x t + (if bb x t = 0 then 0 else 1) ≤ t + 1
    have := cn_b x t
    split <;> omega
theorem bb_z {x : Int32} {t : Nat} : (nI (bb x t) = 0) ↔ bb x t = 0 := by
  have h : bb x t < 256 := Nat.mod_lt _ (by decide)
  refine ⟨fun q => ?_, fun q => by rw [q]; rfl⟩
  exact (nI_eq (a := bb x t) (b := 0) (by omega) (by decide)).mp q
theorem csi_loop {x : Int32} {μ : gs_M} : ∀ (m t fu : Nat), t + m = 4 → m < fu → L_X8_signsIn_5 fu x (nI (cn x t)) (sv t) μ = some (nI (cn x 4), μ) := by
  intro m
  induction m with
  | zero =>
    intro t fu ht hf
    obtain ⟨fu, rfl⟩ : ∃ m, fu = m + 1 := ⟨fu - 1, by omega⟩
    obtain rfl : t = 4 := by omega
    show Bo_X8_signsIn_5 _ _ _ _ _ = _
    unfold Bo_X8_signsIn_5
    rw [if_pos (by decide)]
  | succ m ih =>
    intro t fu ht hf
    obtain ⟨fu, rfl⟩ : ∃ m, fu = m + 1 := ⟨fu - 1, by omega⟩
    rw [← ih (t + 1) fu (by omega) (by omega)]
    have e : cn x (t + 1) = cn x t + (if bb x t = 0 then 0 else 1) := rfl
    show Bo_X8_signsIn_5 _ _ _ _ _ = _
    unfold Bo_X8_signsIn_5
    rw [if_neg (sv_p t (by omega)), cb_e x (by omega), lt1, lt1, sv_s, nI_1, Int32.add_zero, e]
    by_cases z : bb x t = 0
    · rw [if_pos (bb_z.mpr z), if_pos z]
      rfl
    · rw [if_neg (fun q => z (bb_z.mp q)), if_neg z]
theorem msi_loop {x : Int32} {μ : gs_M} : ∀ (m t fu : Nat), t + m = 4 → m < fu → L_X12_bytesIn_5 fu x (nI (cn x t)) (sv t) μ = some (nI (cn x 4), μ) := by
  intro m
  induction m with
  | zero =>
    intro t fu ht hf
    obtain ⟨fu, rfl⟩ : ∃ m, fu = m + 1 := ⟨fu - 1, by omega⟩
    obtain rfl : t = 4 := by omega
    show Bo_X12_bytesIn_5 _ _ _ _ _ = _
    unfold Bo_X12_bytesIn_5
    rw [if_pos (by decide)]
  | succ m ih =>
    intro t fu ht hf
    obtain ⟨fu, rfl⟩ : ∃ m, fu = m + 1 := ⟨fu - 1, by omega⟩
    rw [← ih (t + 1) fu (by omega) (by omega)]
    have e : cn x (t + 1) = cn x t + (if bb x t = 0 then 0 else 1) := rfl
    show Bo_X12_bytesIn_5 _ _ _ _ _ = _
    unfold Bo_X12_bytesIn_5
    rw [if_neg (sv_p t (by omega)), mb_e x (by omega), lt1, lt1, sv_s, nI_1, Int32.add_zero, e]
    by_cases z : bb x t = 0
    · rw [if_pos (bb_z.mpr z), if_pos z]
      rfl
    · rw [if_neg (fun q => z (bb_z.mp q)), if_neg z]
theorem csi_e (x : Int32) (μ : gs_M) : D_X8_signsIn x μ = some (nI (cn x 4), μ) := csi_loop 4 0 4096 (by omega) (by omega)
theorem msi_e (x : Int32) (μ : gs_M) : D_X12_bytesIn x μ = some (nI (cn x 4), μ) := msi_loop 4 0 4096 (by omega) (by omega)
/-- the tape, of n signs -/
def tN (μ ν : gs_M) (n : Nat) : Prop := μ.1 1 1 = nI n ∧ ν.1 78 6 = nI n ∧ ∀ j, j < n → ∃ s, 1 ≤ s ∧ s ≤ 255 ∧ μ.1 2 j = nI s ∧ ν.1 79 j = by8 s
def fT (μ μ' : gs_M) : Prop := (∀ b, ¬ (b = 1 ∨ b = 2) → μ'.1 b = μ.1 b) ∧ μ'.2 = μ.2
def fN (ν ν' : gs_M) : Prop := (∀ b, ¬ (b = 78 ∨ b = 79) → ν'.1 b = ν.1 b) ∧ (∀ j, j ≠ 6 → ν'.1 78 j = ν.1 78 j) ∧ ν'.2 = ν.2
theorem fT.trans {μ0 μ1 μ2 : gs_M} (h : fT μ0 μ1) (g : fT μ1 μ2) : fT μ0 μ2 := ⟨fun b hb => (g.1 b hb).trans (h.1 b hb), g.2.trans h.2⟩
theorem fN.trans {μ0 μ1 μ2 : gs_M} (h : fN μ0 μ1) (g : fN μ1 μ2) : fN μ0 μ2 := ⟨fun b hb => (g.1 b hb).trans (h.1 b hb), fun b hb => (g.2.1 b hb).trans (h.2.1 b hb), g.2.2.trans h.2.2⟩
theorem pw_loop {x : Int32} : ∀ (m t fu fu2 n : Nat) (μ ν : gs_M), t + m = 4 → m < fu → m < fu2 → tN μ ν (n + cn x t) → n + cn x 4 ≤ 160 → ∃ μ' ν', L_X8_putWord_3 fu x (sv t) μ = some μ' ∧ L_X12_put_3 fu2 x (sv t) ν = some ν' ∧ tN μ' ν' (n + cn x 4) ∧ fT μ μ' ∧ fN ν ν' := by
  intro m
  induction m with
  | zero =>
    intro t fu fu2 n μ ν ht hf hf2 hN hn
    obtain ⟨fu, rfl⟩ : ∃ m, fu = m + 1 := ⟨fu - 1, by omega⟩
    obtain ⟨fu2, rfl⟩ : ∃ m, fu2 = m + 1 := ⟨fu2 - 1, by omega⟩
    obtain rfl : t = 4 := by omega
    refine ⟨μ, ν, ?_, ?_, hN, ⟨fun _ _ => rfl, rfl⟩, ⟨fun _ _ => rfl, fun _ _ => rfl, rfl⟩⟩
    · show Bo_X8_putWord_3 _ _ _ _ = _
      unfold Bo_X8_putWord_3
      rw [if_pos (by decide)]
    · show Bo_X12_put_3 _ _ _ _ = _
      unfold Bo_X12_put_3
      rw [if_pos (by decide)]
  | succ m ih =>
    intro t fu fu2 n μ ν ht hf hf2 hN hn
    obtain ⟨fu, rfl⟩ : ∃ m, fu = m + 1 := ⟨fu - 1, by omega⟩
    obtain ⟨fu2, rfl⟩ : ∃ m, fu2 = m + 1 := ⟨fu2 - 1, by omega⟩
    have e : cn x (t + 1) = cn x t + (if bb x t = 0 then 0 else 1) := rfl
    have hb : bb x t < 256 := Nat.mod_lt _ (by decide)
    by_cases z : bb x t = 0
    · rw [if_pos z, Nat.add_zero] at e
      obtain ⟨μ', ν', u1, u2, u3⟩ := ih (t + 1) fu fu2 n μ ν (by omega) (by omega) (by omega) (by rw [e]; exact hN) hn
      refine ⟨μ', ν', ?_, ?_, u3⟩
      · show Bo_X8_putWord_3 _ _ _ _ = _
        unfold Bo_X8_putWord_3
        rw [if_neg (sv_p t (by omega)), cb_e x (by omega), lt1, if_pos (bb_z.mpr z), sv_s]
        exact u1
      · show Bo_X12_put_3 _ _ _ _ = _
        unfold Bo_X12_put_3
        rw [if_neg (sv_p t (by omega)), mb_e x (by omega), if_pos (bb_z.mpr z), sv_s]
        exact u2
    · rw [if_neg z] at e
      have hmono : cn x (t + 1) ≤ cn x 4 := by
        have step : ∀ a, cn x a ≤ cn x (a + 1) := fun a => by
          show cn x a ≤ cn x a + _
          omega
        obtain rfl | rfl | rfl | rfl : t = 0 ∨ t = 1 ∨ t = 2 ∨ t = 3 := by omega
        · exact Nat.le_trans (step 1) (Nat.le_trans (step 2) (step 3))
        · exact Nat.le_trans (step 2) (step 3)
        · exact step 3
        · exact Nat.le_refl _
      obtain ⟨k, hk⟩ : ∃ k, k = n + cn x t := ⟨_, rfl⟩
      rw [← hk] at hN
      obtain ⟨t1, t2, t3⟩ := hN
      obtain ⟨μ1, hμ1⟩ : ∃ μ1, μ1 = sI (sI μ 2 k (nI (bb x t))) 1 1 (nI (k + 1)) := ⟨_, rfl⟩
      obtain ⟨ν1, hν1⟩ : ∃ ν1, ν1 = sI (sI ν 79 k (by8 (bb x t))) 78 6 (nI (k + 1)) := ⟨_, rfl⟩
      have hN1 : tN μ1 ν1 (n + cn x (t + 1)) := by
        rw [e, show n + (cn x t + 1) = k + 1 by omega]
        refine ⟨by rw [hμ1, sI_s, pk_us], by rw [hν1, sI_s, pk_us], fun j hj => ?_⟩
        rw [hμ1, hν1, sI_n _ _ _ (by decide), sI_s, sI_n _ _ _ (by decide), sI_s]
        by_cases q : j = k
        · subst q
          rw [pk_us, pk_us]
          exact ⟨bb x t, by omega, by omega, rfl, rfl⟩
        · rw [pk_un q, pk_un q]
          exact t3 j (by omega)
      obtain ⟨μ', ν', u1, u2, u3, u4, u5⟩ := ih (t + 1) fu fu2 n μ1 ν1 (by omega) (by omega) (by omega) hN1 hn
      refine ⟨μ', ν', ?_, ?_, u3, fT.trans ⟨fun b hb => by rw [hμ1, sI_n _ _ _ (by omega), sI_n _ _ _ (by omega)], by rw [hμ1]; rfl⟩ u4, fN.trans ⟨fun b hb => by rw [hν1, sI_n _ _ _ (by omega), sI_n _ _ _ (by omega)], fun j hj => by rw [hν1, sI_s, pk_un hj, sI_n _ _ _ (by decide)], by rw [hν1]; rfl⟩ u5⟩
      · show Bo_X8_putWord_3 _ _ _ _ = _
        unfold Bo_X8_putWord_3
        rw [if_neg (sv_p t (by omega)), cb_e x (by omega), lt1, if_neg (fun q => z (bb_z.mp q)), sv_s, gI_d, t1, if_neg (show ¬ (160 : Int32) ≤ nI k by rw [show (160 : Int32) = nI 160 from rfl]; exact nI_ge (by omega) (by omega)), inb_n (show k < 160 by omega) (by decide), ck_t, nI_clamp (by omega), lt1, lt1, gI_d, sI_n _ _ _ (show 1 ≠ 2 by decide), t1, nI_1, ← hμ1]
        exact u1
      · show Bo_X12_put_3 _ _ _ _ = _
        unfold Bo_X12_put_3
        rw [if_neg (sv_p t (by omega)), mb_e x (by omega), if_neg (fun q => z (bb_z.mp q)), sv_s, gI_d, t2, inb_n (show k < 160 by omega) (by decide), ck_t, nI_clamp (by omega), lt1, lt1, gI_d, sI_n _ _ _ (show 78 ≠ 79 by decide), t2, nI_1, nar_e, ms_e x (by omega), ← hν1]
        exact u2
theorem pw_e {x : Int32} {n : Nat} {μ ν : gs_M} (hN : tN μ ν n) (hn : n + cn x 4 ≤ 160) : ∃ μ' ν', D_X8_putWord x μ = some μ' ∧ D_X12_put x ν = some ν' ∧ tN μ' ν' (n + cn x 4) ∧ fT μ μ' ∧ fN ν ν' := pw_loop 4 0 4096 4096 n μ ν (by omega) (by omega) (by omega) hN hn
theorem k_feed {i : Nat} (y0 y1 y2 y3 y4 : Int32) : CALLS i (D_X11_feed y0 y1 y2 y3 y4) (D_X12_feed y0 y1 y2 y3 y4) := by
  intro μ ν0 h0
  obtain ⟨ν, hν, h, he⟩ := th_e h0
  have h' := h
  obtain ⟨h1, ⟨st, h2, h3, h4⟩, ⟨sh, h5⟩, ⟨pl, h6⟩, h7, h8, h9, h10, h11, h12⟩ := h'
  obtain ⟨n, n1, t1, t2, t3⟩ := h1
  unfold D_X11_feed D_X12_feed
  rw [lt1, ← hν, csi_e, bd_s, csi_e, bd_s, csi_e, bd_s, csi_e, bd_s, csi_e, bd_s, lt1, msi_e, bd_s, msi_e, bd_s, msi_e, bd_s, msi_e, bd_s, msi_e, bd_s, gI_d, gI_d, t1, t2]
  simp only [nI_add]
  have b0 := cn_b y0 4
  have b1 := cn_b y1 4
  have b2 := cn_b y2 4
  have b3 := cn_b y3 4
  have b4 := cn_b y4 4
  by_cases z : n + cn y0 4 + cn y1 4 + cn y2 4 + cn y3 4 + cn y4 4 ≤ 160
  · obtain ⟨μ1, ν1, a1, a2, a3, a4, a5⟩ := pw_e (x := y0) (μ := μ) (ν := ν) (n := n) ⟨t1, t2, t3⟩ (by omega)
    obtain ⟨μ2, ν2, b1, b2, b3, b4, b5⟩ := pw_e (x := y1) a3 (by omega)
    obtain ⟨μ3, ν3, c1, c2, c3, c4, c5⟩ := pw_e (x := y2) b3 (by omega)
    obtain ⟨μ4, ν4, d1, d2, d3, d4, d5⟩ := pw_e (x := y3) c3 (by omega)
    obtain ⟨μ', ν', e1, e2, e3, e4, e5⟩ := pw_e (x := y4) d3 (by omega)
    have f1 := (((a4.trans b4).trans c4).trans d4).trans e4
    have g1 := (((a5.trans b5).trans c5).trans d5).trans e5
    have fc := f1.1
    have fl := f1.2
    have fm := g1.1
    have f78 := g1.2.1
    have f2 := g1.2.2
    obtain ⟨w1, w2, w3⟩ := e3
    have nw : cT μ' ν' := ⟨_, by omega, w1, w2, w3⟩
    refine ⟨nI (n + cn y0 4 + cn y1 4 + cn y2 4 + cn y3 4 + cn y4 4), μ', ν', ?_, ?_, ⟨nw, ⟨st, h2.go (fc 7 (by decide)) (fc 8 (by decide)) (fc 9 (by decide)) (f78 24 (by decide)) (fm 83 (by decide)), h3.go (by omega) (fun b _ _ => fc b (by omega)) (by rw [fl]) (fun j _ => by rw [fm 89 (by decide)]) (fm 83 (by decide)) (by rw [f2]), h4.go (by omega) (fun b _ _ => fc b (by omega)) (by rw [fl]) (fm 91 (by decide)) (f78 36 (by decide)) (fm 83 (by decide)) (by rw [f2])⟩, ⟨sh, h5.go (fc 10 (by decide)) (fc 11 (by decide)) (fc 12 (by decide)) (f78 25 (by decide)) (fm 84 (by decide)) (fm 86 (by decide))⟩, ⟨pl, h6.go (fc 13 (by decide)) (fc 14 (by decide)) (fc 15 (by decide)) (f78 26 (by decide)) (fm 85 (by decide)) (fm 87 (by decide))⟩, h7.go (fc 25 (by decide)) (fun j _ _ => f78 j (by omega)), h8.go (fc 66 (by decide)) (fc 67 (by decide)) (fc 68 (by decide)) (f78 41 (by decide)) (fm 92 (by decide)) (fm 93 (by decide)), h9.go (fc 69 (by decide)) (fc 70 (by decide)) (fc 71 (by decide)) (f78 48 (by decide)) (fm 96 (by decide)) (fm 97 (by decide)), h10.go (by rw [fc 0 (by decide)]) (fc 72 (by decide)) (f78 43 (by decide)) (fm 94 (by decide)), h11.go (fc 73 (by decide)) (fc 74 (by decide)) (f78 45 (by decide)) (fm 95 (by decide)), h12.go (by rw [fc 16 (by decide)]) (fun b _ _ => fc b (by omega)) (f78 7 (by decide)) (fm 80 (by decide)) (fm 81 (by decide))⟩, fun b hb => ⟨fc b (by omega), by rw [fl]⟩, eM.trans he (fun b hb => ⟨fm b (by omega), by rw [f2]⟩)⟩
    · rw [if_pos (show nI _ ≤ (160 : Int32) by rw [show (160 : Int32) = nI 160 from rfl]; exact nI_le (by omega) (by omega)), a1, bd0_s, b1, bd0_s, c1, bd0_s, d1, bd0_s, e1, bd0_s, gI_d, w1]
    · rw [if_pos (show nI _ ≤ (160 : Int32) by rw [show (160 : Int32) = nI 160 from rfl]; exact nI_le (by omega) (by omega)), a2, bd0_s, b2, bd0_s, c2, bd0_s, d2, bd0_s, e2, bd0_s, gI_d, w2]
  · exact fin_e (r := -1) h he (by rw [if_neg (show ¬ nI _ ≤ (160 : Int32) by rw [show (160 : Int32) = nI 160 from rfl]; exact nI_ge (by omega) (by omega))]) (by rw [if_neg (show ¬ nI _ ≤ (160 : Int32) by rw [show (160 : Int32) = nI 160 from rfl]; exact nI_ge (by omega) (by omega))])
