/-! reading: signs, spaces, digits -/
theorem by8_and : ∀ s : Fin 256, by8 s.1 &&& 255 = nI s.1 := by decide +kernel
theorem by8_a {s : Nat} (h : s ≤ 255) : by8 s &&& 255 = nI s := by8_and ⟨s, by omega⟩
theorem by8_32 {s : Nat} (h : s ≤ 255) : by8 s = 32 ↔ s = 32 := by
  rw [ti_eq, by8_i h]
  have : (32 : Int32).toInt = 32 := by decide
  rw [this]
  split <;> omega
/-- the text that both read: the class its tape, the model a part of a row -/
def TX (B b0 n : Nat) (μ ν : gs_M) : Prop := n ≤ 160 ∧ μ.1 1 1 = nI n ∧ ν.1 78 5 = nI B ∧ ν.1 78 8 = nI b0 ∧ ν.1 78 9 = nI n ∧ ((B = 79 ∧ b0 = 0) ∨ (B = 80 ∧ b0 ≤ 480)) ∧ ∀ j, j < n → ∃ s, 1 ≤ s ∧ s ≤ 255 ∧ μ.1 2 j = nI s ∧ ν.1 B (b0 + j) = by8 s
theorem TX.go {B b0 n : Nat} {μ ν μ' ν' : gs_M} (h : TX B b0 n μ ν) (a1 : μ'.1 1 = μ.1 1) (a2 : μ'.1 2 = μ.1 2) (b1 : ν'.1 78 5 = ν.1 78 5) (b2 : ν'.1 78 8 = ν.1 78 8) (b3 : ν'.1 78 9 = ν.1 78 9) (b4 : ν'.1 B = ν.1 B) : TX B b0 n μ' ν' := by
  unfold TX at *
  rw [a1, a2, b1, b2, b3, b4]
  exact h
/-- where both stand -/
def AT (a0 n p : Nat) (μ ν : gs_M) : Prop := p ≤ n ∧ μ.1 a0 1 = nI p ∧ ν.1 78 10 = nI p
/-- what a step of reading leaves as it was -/
def RC (a0 : Nat) (μ μ' : gs_M) : Prop := (∀ b, b ≠ a0 → μ'.1 b = μ.1 b) ∧ (∀ j, j ≠ 1 → j ≠ 2 → μ'.1 a0 j = μ.1 a0 j) ∧ μ'.2 = μ.2
def RM (ν ν' : gs_M) : Prop := (∀ b, b ≠ 78 → ν'.1 b = ν.1 b) ∧ (∀ j, j ≠ 10 → j ≠ 11 → ν'.1 78 j = ν.1 78 j) ∧ ν'.2 = ν.2
theorem RC.refl {a0 : Nat} {μ : gs_M} : RC a0 μ μ := ⟨fun _ _ => rfl, fun _ _ _ => rfl, rfl⟩
theorem RM.refl {ν : gs_M} : RM ν ν := ⟨fun _ _ => rfl, fun _ _ _ => rfl, rfl⟩
theorem RC.trans {a0 : Nat} {μ0 μ1 μ2 : gs_M} (h : RC a0 μ0 μ1) (g : RC a0 μ1 μ2) : RC a0 μ0 μ2 := ⟨fun b hb => (g.1 b hb).trans (h.1 b hb), fun j j1 j2 => (g.2.1 j j1 j2).trans (h.2.1 j j1 j2), g.2.2.trans h.2.2⟩
theorem RM.trans {μ0 μ1 μ2 : gs_M} (h : RM μ0 μ1) (g : RM μ1 μ2) : RM μ0 μ2 := ⟨fun b hb => (g.1 b hb).trans (h.1 b hb), fun j j1 j2 => (g.2.1 j j1 j2).trans (h.2.1 j j1 j2), g.2.2.trans h.2.2⟩
theorem RC.s {a0 j : Nat} {μ : gs_M} {v : Int32} (h : j = 1 ∨ j = 2) : RC a0 μ (sI μ a0 j v) :=
  ⟨fun b hb => sI_n _ _ _ hb, fun i i1 i2 => by rw [sI_s]; exact pk_un (by omega), rfl⟩
theorem RM.s {j : Nat} {ν : gs_M} {v : Int32} (h : j = 10 ∨ j = 11) : RM ν (sI ν 78 j v) :=
  ⟨fun b hb => sI_n _ _ _ hb, fun i i1 i2 => by rw [sI_s]; exact pk_un (by omega), rfl⟩
theorem TX.r {a0 B b0 n : Nat} {μ ν μ' ν' : gs_M} (ha : a0 = 3 ∨ a0 = 5) (h : TX B b0 n μ ν) (hc : RC a0 μ μ') (hm : RM ν ν') : TX B b0 n μ' ν' := by
  have hB : B ≠ 78 := by have := h.2.2.2.2.2.1; omega
  exact h.go (hc.1 _ (by omega)) (hc.1 _ (by omega)) (hm.2.1 _ (by decide) (by decide)) (hm.2.1 _ (by decide) (by decide)) (hm.2.1 _ (by decide) (by decide)) (hm.1 _ hB)
theorem sI_u (μ : gs_M) (a j : Nat) (v : Int32) : (sI μ a j v).1 a j = v := by rw [sI_s]; exact if_pos rfl
theorem sI_o (μ : gs_M) {a j i : Nat} (v : Int32) (h : i ≠ j) : (sI μ a j v).1 a i = μ.1 a i := by rw [sI_s]; exact pk_un h
/-- a sign of the class's, one of the model's -/
theorem sa_e {B b0 n p : Nat} {μ ν : gs_M} (h : TX B b0 n μ ν) (hp : p < n) : D_X8_signAt (nI p) μ = some (μ.1 2 p, μ) := by
  obtain ⟨h1, h2, -⟩ := h
  unfold D_X8_signAt
  rw [if_neg (show ¬ nI p < 0 from nI_nlt (a := p) (b := 0) (by omega) (by omega)), gI_d, h2, if_neg (nI_ge (by omega) (by omega)), inb_n (show p < 160 by omega) (by decide), ck_t, nI_clamp (by omega), gI_d]
theorem sa_o {B b0 n p : Nat} {μ ν : gs_M} (h : TX B b0 n μ ν) (hp : n ≤ p) (h2p : p ≤ 200) : D_X8_signAt (nI p) μ = some (-1, μ) := by
  obtain ⟨h1, h2, -⟩ := h
  unfold D_X8_signAt
  rw [if_neg (show ¬ nI p < 0 from nI_nlt (a := p) (b := 0) (by omega) (by omega)), gI_d, h2, if_pos (nI_le (by omega) (by omega))]
  rfl
theorem TX.ck {α : Type} {B b0 n p : Nat} {μ ν : gs_M} (h : TX B b0 n μ ν) (hp : p < n) (h10 : ν.1 78 10 = nI p) (X : Option α) : ck (isk ((gI ν 78 5).toNatClampNeg) 21) (ck (inb ((gI ν 78 8) + (gI ν 78 10)) (ln ((gI ν 78 5).toNatClampNeg))) X) = X := by
  obtain ⟨h1, h2, h3, h4, h5, h6, h7⟩ := h
  rw [gI_d, gI_d, gI_d, h3, h4, h10, nI_add]
  rcases h6 with ⟨rfl, rfl⟩ | ⟨rfl, hb⟩
  · rw [nI_clamp (by omega), isk_t (by decide +kernel), ck_t, show ln 79 = 160 by decide +kernel, inb_n (by omega) (by decide), ck_t]
  · rw [nI_clamp (by omega), isk_t (by decide +kernel), ck_t, show ln 80 = 640 by decide +kernel, inb_n (by omega) (by decide), ck_t]
theorem TX.at {B b0 n p : Nat} {μ ν : gs_M} (h : TX B b0 n μ ν) (hp : p < n) (h10 : ν.1 78 10 = nI p) : gI ν ((gI ν 78 5).toNatClampNeg) (Int32.toNatClampNeg ((gI ν 78 8) + (gI ν 78 10))) = ν.1 B (b0 + p) := by
  obtain ⟨h1, h2, h3, h4, h5, h6, h7⟩ := h
  rw [gI_d ν 78 5, gI_d ν 78 8, gI_d ν 78 10, h3, h4, h10, nI_add, nI_clamp (by omega), nI_clamp (by omega), gI_d]
/-- the next sign that is no space -/
theorem nx_loop {a0 B b0 n : Nat} (ha : a0 = 3 ∨ a0 = 5) : ∀ (m p fu fu2 : Nat) (μ ν : gs_M), p + m = n → m < fu → m < fu2 → TX B b0 n μ ν → AT a0 n p μ ν → ∃ (g : Int32) (p' : Nat) (μ' ν' : gs_M), p ≤ p' ∧ L_X4_next_0 fu a0 μ = some (g, μ') ∧ L_X12_look_0 fu2 ν = some (g, ν') ∧ AT a0 n p' μ' ν' ∧ RC a0 μ μ' ∧ RM ν ν' ∧ μ'.1 a0 2 = μ.1 a0 2 ∧ ν'.1 78 11 = ν.1 78 11 ∧ ((p' = n ∧ g = -1) ∨ (p' < n ∧ ∃ s, 1 ≤ s ∧ s ≤ 255 ∧ s ≠ 32 ∧ g = nI s ∧ μ.1 2 p' = nI s ∧ ν.1 B (b0 + p') = by8 s)) := by
  intro m
  induction m with
  | zero =>
    intro p fu fu2 μ ν hp hf hf2 hT hA
    obtain ⟨fu, rfl⟩ : ∃ m, fu = m + 1 := ⟨fu - 1, by omega⟩
    obtain ⟨fu2, rfl⟩ : ∃ m, fu2 = m + 1 := ⟨fu2 - 1, by omega⟩
    obtain ⟨A1, A2, A3⟩ := hA
    have h160 := hT.1
    have hpn : p = n := by omega
    subst hpn
    have e1 := sa_o hT (Nat.le_refl p) (by omega)
    refine ⟨-1, p, μ, ν, Nat.le_refl _, ?_, ?_, ⟨A1, A2, A3⟩, RC.refl, RM.refl, rfl, rfl, Or.inl ⟨rfl, rfl⟩⟩
    · show Bo_X4_next_0 _ _ _ = _
      unfold Bo_X4_next_0 B_X4_next_39
      rw [gI_d, A2, e1, bd_s, bd_s, if_neg (show ¬ (-1 : Int32) = 32 by decide)]
      by_cases q : (160 : Int32) ≤ nI p
      · rw [if_pos q]
      · rw [if_neg q, gI_d, A2, e1, bd_s]
    · show Bo_X12_look_0 _ _ = _
      unfold Bo_X12_look_0 B_X12_look_43
      have q : gI ν 78 9 ≤ gI ν 78 10 := by rw [gI_d, gI_d, hT.2.2.2.2.1, A3]; exact nI_le (by omega) (by omega)
      rw [if_pos q, if_pos q]
  | succ m ih =>
    intro p fu fu2 μ ν hp hf hf2 hT hA
    obtain ⟨fu, rfl⟩ : ∃ m, fu = m + 1 := ⟨fu - 1, by omega⟩
    obtain ⟨fu2, rfl⟩ : ∃ m, fu2 = m + 1 := ⟨fu2 - 1, by omega⟩
    obtain ⟨A1, A2, A3⟩ := hA
    have h160 := hT.1
    have hpn : p < n := by omega
    have e1 := sa_e hT hpn
    obtain ⟨s, s1, s2, s3, s4⟩ := hT.2.2.2.2.2.2 p hpn
    have q : ¬ gI ν 78 9 ≤ gI ν 78 10 := by rw [gI_d, gI_d, hT.2.2.2.2.1, A3]; exact nI_ge (by omega) (by omega)
    have c1 : L_X4_next_0 (fu + 1) a0 μ = if nI s = 32 then L_X4_next_0 fu a0 (sI μ a0 1 (nI (p + 1))) else some (nI s, μ) := by
      show Bo_X4_next_0 _ _ _ = _
      unfold Bo_X4_next_0 B_X4_next_39
      rw [gI_d, A2, if_neg (show ¬ (160 : Int32) ≤ nI p by rw [show (160 : Int32) = nI 160 from rfl]; exact nI_ge (by omega) (by omega)), e1, bd_s, s3, lt1, gI_d, A2, nI_1, e1, bd_s, s3]
    have c2 : L_X12_look_0 (fu2 + 1) ν = if by8 s = 32 then L_X12_look_0 fu2 (sI ν 78 10 (nI (p + 1))) else some (nI s, ν) := by
      show Bo_X12_look_0 _ _ = _
      unfold Bo_X12_look_0 B_X12_look_43
      rw [if_neg q, if_neg q, hT.ck hpn A3, hT.ck hpn A3, hT.at hpn A3, s4, by8_a s2, lt1, gI_d, A3, nI_1]
    by_cases q32 : s = 32
    · subst q32
      obtain ⟨g, p', μ', ν', t0, t1, t2, t3, t4, t5, t6, t7, t8⟩ := ih (p + 1) fu fu2 (sI μ a0 1 (nI (p + 1))) (sI ν 78 10 (nI (p + 1))) (by omega) (by omega) (by omega) (hT.r ha (RC.s (Or.inl rfl)) (RM.s (Or.inl rfl))) ⟨by omega, sI_u _ _ _ _, sI_u _ _ _ _⟩
      refine ⟨g, p', μ', ν', by omega, by rw [c1, if_pos (show nI 32 = 32 from rfl)]; exact t1, by rw [c2, if_pos ((by8_32 (by omega)).mpr rfl)]; exact t2, t3, (RC.s (Or.inl rfl)).trans t4, (RM.s (Or.inl rfl)).trans t5, by rw [t6]; exact sI_o _ _ (by decide), by rw [t7]; exact sI_o _ _ (by decide), ?_⟩
      rw [sI_n _ _ _ (show 2 ≠ a0 by omega), sI_n _ _ _ (show B ≠ 78 by have := hT.2.2.2.2.2.1; omega)] at t8
      exact t8
    · refine ⟨nI s, p, μ, ν, Nat.le_refl _, ?_, ?_, ⟨A1, A2, A3⟩, RC.refl, RM.refl, rfl, rfl, Or.inr ⟨hpn, s, s1, s2, q32, rfl, s3, s4⟩⟩
      · rw [c1, if_neg (show ¬ nI s = (32 : Int32) from fun e => q32 ((nI_eq (b := 32) (by omega) (by omega)).mp e))]
      · rw [c2, if_neg (fun e => q32 ((by8_32 s2).mp e))]
theorem nx_e {a0 B b0 n p : Nat} {μ ν : gs_M} (ha : a0 = 3 ∨ a0 = 5) (hT : TX B b0 n μ ν) (hA : AT a0 n p μ ν) : ∃ (g : Int32) (p' : Nat) (μ' ν' : gs_M), p ≤ p' ∧ D_X4_next a0 μ = some (g, μ') ∧ D_X12_look ν = some (g, ν') ∧ AT a0 n p' μ' ν' ∧ RC a0 μ μ' ∧ RM ν ν' ∧ μ'.1 a0 2 = μ.1 a0 2 ∧ ν'.1 78 11 = ν.1 78 11 ∧ ((p' = n ∧ g = -1) ∨ (p' < n ∧ ∃ s, 1 ≤ s ∧ s ≤ 255 ∧ s ≠ 32 ∧ g = nI s ∧ μ.1 2 p' = nI s ∧ ν.1 B (b0 + p') = by8 s)) :=
  nx_loop ha (n - p) p 4096 4096 μ ν (by have := hA.1; omega) (by have := hT.1; omega) (by have := hT.1; omega) hT hA
/-- a digit or none -/
theorem dt_e {a0 B b0 n p : Nat} {μ ν : gs_M} (hT : TX B b0 n μ ν) (hA : AT a0 n p μ ν) : ∃ g : Int32, D_X8_signAt (nI p) μ = some (g, μ) ∧ D_X12_isDigit ν = some (inN g 48 57, ν) ∧ (inN g 48 57 = 0 ∨ (inN g 48 57 = 1 ∧ p < n ∧ ∃ d, d ≤ 9 ∧ g = nI (48 + d) ∧ D_X12_here ν = some (g, ν))) := by
  obtain ⟨A1, A2, A3⟩ := hA
  have h160 := hT.1
  have k48 : (48 : Int32).toInt = 48 := by decide
  have k57 : (57 : Int32).toInt = 57 := by decide
  by_cases hp : p < n
  · obtain ⟨s, s1, s2, s3, s4⟩ := hT.2.2.2.2.2.2 p hp
    have q : ¬ gI ν 78 9 ≤ gI ν 78 10 := by rw [gI_d, gI_d, hT.2.2.2.2.1, A3]; exact nI_ge (by omega) (by omega)
    have ts : (nI s).toInt = s := nI_toInt (by omega)
    have tb := by8_i s2
    refine ⟨nI s, by rw [sa_e hT hp, s3], ?_, ?_⟩
    · unfold D_X12_isDigit B_X12_isDigit_53
      rw [if_neg q, hT.ck hp A3, hT.ck hp A3, hT.at hp A3, s4]
      by_cases q1 : 48 ≤ s ∧ s ≤ 57
      · rw [if_pos (show s < 128 by omega)] at tb
        rw [inN_y (by omega) (by omega), if_neg (by rw [ti_lt]; omega), if_neg (by rw [ti_lt]; omega)]
      · rw [inN_z (by omega)]
        by_cases q2 : by8 s < 48
        · rw [if_pos q2]
        · rw [ti_lt] at q2
          rw [if_neg (by rw [ti_lt]; exact q2), if_pos (by rw [ti_lt]; split at tb <;> omega)]
    · by_cases q1 : 48 ≤ s ∧ s ≤ 57
      · refine Or.inr ⟨inN_y (by omega) (by omega), hp, s - 48, by omega, by rw [show 48 + (s - 48) = s by omega], ?_⟩
        unfold D_X12_here
        rw [if_neg q, hT.ck hp A3, hT.at hp A3, s4, by8_a s2]
      · exact Or.inl (inN_z (by omega))
  · have hp : n = p := by omega
    subst hp
    refine ⟨-1, sa_o hT (Nat.le_refl _) (by omega), ?_, Or.inl (by decide)⟩
    unfold D_X12_isDigit B_X12_isDigit_53
    rw [if_pos (show gI ν 78 9 ≤ gI ν 78 10 by rw [gI_d, gI_d, hT.2.2.2.2.1, A3]; exact nI_le (by omega) (by omega))]
    rfl
theorem fl_e {a0 p : Nat} {μ : gs_M} (h2 : μ.1 a0 2 = -1) (x : Int32) : D_X4_failAt a0 x μ = some (sI μ a0 2 x) := by
  unfold D_X4_failAt
  rw [gI_d, if_pos h2, lt1]
theorem fm_e {ν : gs_M} {x : Int32} (h1 : ν.1 78 10 = x) (h2 : ν.1 78 11 = -1) : D_X12_fails ν = some (0, sI ν 78 11 x) := by
  unfold D_X12_fails
  rw [gI_d, if_pos h2, lt1, gI_d, h1]
/-- a number: what came out -/
def DG (a0 n : Nat) (lo hi : Int32) (μ ν : gs_M) (v w : Int32) (μ' ν' : gs_M) : Prop := ∃ p', p' ≤ n ∧ μ'.1 a0 1 = nI p' ∧ RC a0 μ μ' ∧ RM ν ν' ∧ ((∃ q, q ≤ 160 ∧ μ'.1 a0 2 = nI q ∧ ν'.1 78 11 = nI q) ∨ (μ'.1 a0 2 = -1 ∧ 1 ≤ p' ∧ (∃ k, k ≤ 999 ∧ v = nI k) ∧ ((inN v lo hi = 1 ∧ w = v ∧ ν'.1 78 10 = nI p' ∧ ν'.1 78 11 = -1) ∨ (inN v lo hi = 0 ∧ ν'.1 78 11 = nI (p' - 1)))))
theorem DG.pre {a0 n : Nat} {lo hi v w : Int32} {μ0 ν0 μ ν μ' ν' : gs_M} (hc : RC a0 μ0 μ) (hm : RM ν0 ν) (h : DG a0 n lo hi μ ν v w μ' ν') : DG a0 n lo hi μ0 ν0 v w μ' ν' := by
  obtain ⟨p', h1, h2, h3, h4, h5⟩ := h
  exact ⟨p', h1, h2, hc.trans h3, hm.trans h4, h5⟩
theorem dg_loop {a0 B b0 n : Nat} {lo hi : Int32} (ha : a0 = 3 ∨ a0 = 5) : ∀ (m c p v fu fu2 : Nat) (μ ν : gs_M), c + m = 3 → m < fu → m < fu2 → v < 10 ^ c → (1 ≤ c ∧ 1 ≤ p ∨ ∃ g, D_X8_signAt (nI p) μ = some (g, μ) ∧ inN g 48 57 = 1) → TX B b0 n μ ν → AT a0 n p μ ν → μ.1 a0 2 = -1 → ν.1 78 11 = -1 → ∃ (r w : Int32) (μ' ν' : gs_M), L_X4_digits_9 fu a0 3 (nI v) (nI c) μ = some (r, μ') ∧ L_X12_number_25 fu2 lo hi (nI v) (nI c) ν = some (w, ν') ∧ DG a0 n lo hi μ ν r w μ' ν' := by
  have tail : ∀ (c p v : Nat) (μ ν : gs_M), v ≤ 999 → c ≤ 3 → 1 ≤ c → 1 ≤ p → TX B b0 n μ ν → AT a0 n p μ ν → μ.1 a0 2 = -1 → ν.1 78 11 = -1 → D_X12_isDigit ν = some (0, ν) → ∃ (r w : Int32) (μ' ν' : gs_M), B_X4_digits_86 a0 (nI v) (nI c) μ = some (r, μ') ∧ B_X12_number_69 lo hi (nI v) ν = some (w, ν') ∧ DG a0 n lo hi μ ν r w μ' ν' := by
    intro c p v μ ν hv hc3 hc hp hT hA h1 h2 hd
    obtain ⟨A1, A2, A3⟩ := hA
    have c1 : B_X4_digits_86 a0 (nI v) (nI c) μ = some (nI v, μ) := by
      unfold B_X4_digits_86
      rw [if_neg (nI_ne0 (by omega) (by omega))]
    have m1 : B_X12_number_69 lo hi (nI v) ν = if inN (nI v) lo hi = 0 then some (-1, sI (sI ν 78 10 (nI (p - 1))) 78 11 (nI (p - 1))) else some (nI v, ν) := by
      unfold B_X12_number_69
      rw [hd, bd_s, if_pos rfl, ii_e, bd_s, lt1, gI_d, A3, nI_m1 hp, fm_e (x := nI (p - 1)) (sI_u _ _ _ _) ((sI_o _ _ (by decide)).trans h2), bd_s]
    rcases inN_k (nI v) (lo := lo) (hi := hi) rfl rfl with e | ⟨e, -, -⟩
    · refine ⟨nI v, -1, μ, _, c1, by rw [m1, if_pos e], p, A1, A2, RC.refl, (RM.s (Or.inl rfl)).trans (RM.s (Or.inr rfl)), Or.inr ⟨h1, hp, ⟨v, hv, rfl⟩, Or.inr ⟨e, sI_u _ _ _ _⟩⟩⟩
    · refine ⟨nI v, nI v, μ, ν, c1, by rw [m1, e, if_neg z10], p, A1, A2, RC.refl, RM.refl, Or.inr ⟨h1, hp, ⟨v, hv, rfl⟩, Or.inl ⟨e, rfl, A3, h2⟩⟩⟩
  intro m
  induction m with
  | zero =>
    intro c p v fu fu2 μ ν hc hf hf2 hv hpre hT hA h1 h2
    obtain ⟨fu, rfl⟩ : ∃ m, fu = m + 1 := ⟨fu - 1, by omega⟩
    obtain ⟨fu2, rfl⟩ : ∃ m, fu2 = m + 1 := ⟨fu2 - 1, by omega⟩
    have hc3 : c = 3 := by omega
    subst hc3
    obtain ⟨g, g1, g2, g3⟩ := dt_e hT hA
    have h160 := hT.1
    have A2 := hA.2.1
    have hp1 : 1 ≤ p ∨ inN g 48 57 = 1 := by
      rcases hpre with ⟨-, q⟩ | ⟨g', e1, e2⟩
      · exact Or.inl q
      · rw [e1] at g1
        injection g1 with g1
        injection g1 with g1
        rw [← g1]
        exact Or.inr e2
    have c1 : L_X4_digits_9 (fu + 1) a0 3 (nI v) (nI 3) μ = if inN g 48 57 = 0 then B_X4_digits_86 a0 (nI v) (nI 3) μ else some (nI v, sI μ a0 2 (nI p)) := by
      show Bo_X4_digits_9 _ _ _ _ _ _ = _
      unfold Bo_X4_digits_9
      rw [if_neg (show ¬ (3 : Int32) < nI 3 by decide), gI_d, A2, g1, bd_s, wi_e, bd_s, if_pos (show nI 3 = 3 from rfl), gI_d, A2, fl_e (p := p) h1, bd0_s]
    have m1 : L_X12_number_25 (fu2 + 1) lo hi (nI v) (nI 3) ν = B_X12_number_69 lo hi (nI v) ν := by
      show Bo_X12_number_25 _ _ _ _ _ _ = _
      unfold Bo_X12_number_25
      rw [if_pos (show (3 : Int32) ≤ nI 3 by decide)]
    rw [c1, m1]
    rcases g3 with e | ⟨e, hp, d, hd, rfl, e2⟩
    · rw [if_pos e]
      rw [e] at g2
      have hp1 : 1 ≤ p := by
        rcases hp1 with q | q
        · exact q
        · rw [e] at q
          exact absurd q (by decide)
      exact tail 3 p v μ ν (by omega) (by omega) (by omega) hp1 hT hA h1 h2 g2
    · rw [e, if_neg z10]
      refine ⟨nI v, -1, _, sI ν 78 11 (nI p), rfl, ?_, p, hA.1, (sI_o _ _ (by decide)).trans A2, RC.s (Or.inr rfl), RM.s (Or.inr rfl), Or.inl ⟨p, by omega, sI_u _ _ _ _, sI_u _ _ _ _⟩⟩
      unfold B_X12_number_69
      rw [g2, bd_s, e, if_neg z10, fm_e hA.2.2 h2, bd_s]
  | succ m ih =>
    intro c p v fu fu2 μ ν hc hf hf2 hv hpre hT hA h1 h2
    obtain ⟨fu, rfl⟩ : ∃ m, fu = m + 1 := ⟨fu - 1, by omega⟩
    obtain ⟨fu2, rfl⟩ : ∃ m, fu2 = m + 1 := ⟨fu2 - 1, by omega⟩
    obtain ⟨g, g1, g2, g3⟩ := dt_e hT hA
    have h160 := hT.1
    obtain ⟨A1, A2, A3⟩ := hA
    have hv3 : v < 1000 := Nat.lt_of_lt_of_le hv (Nat.pow_le_pow_right (n := 10) (by omega) (show c ≤ 3 by omega))
    have c1 : L_X4_digits_9 (fu + 1) a0 3 (nI v) (nI c) μ = if inN g 48 57 = 0 then B_X4_digits_86 a0 (nI v) (nI c) μ else L_X4_digits_9 fu a0 3 (nI v * 10 + g - 48) (nI (c + 1)) (sI μ a0 1 (nI (p + 1))) := by
      show Bo_X4_digits_9 _ _ _ _ _ _ = _
      unfold Bo_X4_digits_9
      rw [if_neg (show ¬ (3 : Int32) < nI c by rw [show (3 : Int32) = nI 3 from rfl]; exact nI_nlt (by omega) (by omega)), gI_d, A2, g1, bd_s, wi_e, bd_s, if_neg (show ¬ nI c = 3 by rw [show (3 : Int32) = nI 3 from rfl, nI_eq (by omega) (by omega)]; omega), gI_d, A2, g1, bd_s, lt1, lt1, gI_d, A2, nI_1, nI_1]
    have m1 : L_X12_number_25 (fu2 + 1) lo hi (nI v) (nI c) ν = if inN g 48 57 = 0 then B_X12_number_69 lo hi (nI v) ν else bd (D_X12_here ν) (fun v8 u7 => lt1 ((((10 : Int32) * nI v) + v8) - (48 : Int32)) (fun v9 => lt1 (sI u7 78 10 ((gI u7 78 10) + (1 : Int32))) (fun u10 => L_X12_number_25 fu2 lo hi v9 (nI c + (1 : Int32)) u10))) := by
      show Bo_X12_number_25 _ _ _ _ _ _ = _
      unfold Bo_X12_number_25
      rw [if_neg (show ¬ (3 : Int32) ≤ nI c by rw [show (3 : Int32) = nI 3 from rfl]; exact nI_ge (by omega) (by omega)), g2, bd_s]
    rw [c1, m1]
    rcases g3 with e | ⟨e, hp, d, hd, rfl, e2⟩
    · rw [if_pos e, if_pos e]
      rw [e] at g2
      have hp1 : 1 ≤ c ∧ 1 ≤ p := by
        rcases hpre with q | ⟨g', e1, e2⟩
        · exact q
        · rw [e1] at g1
          injection g1 with g1
          injection g1 with g1
          rw [← g1, e2] at e
          exact absurd e (by decide)
      exact tail c p v μ ν (by omega) (by omega) hp1.1 hp1.2 hT ⟨A1, A2, A3⟩ h1 h2 g2
    · have t10 : (10 : Int32).toInt = 10 := by decide
      have t48 : (48 : Int32).toInt = 48 := by decide
      have tv : (nI v).toInt = v := nI_toInt (by omega)
      have td : (nI (48 + d)).toInt = ((48 + d : Nat) : Int) := nI_toInt (by omega)
      have m1 : (nI v * 10).toInt = v * 10 := by rw [ti_mul (by rw [tv, t10]; omega) (by rw [tv, t10]; omega), tv, t10]
      have m2 : (nI v * 10 + nI (48 + d)).toInt = v * 10 + 48 + d := by rw [ti_add (by omega) (by omega), m1, td]; omega
      have k1 : nI v * 10 + nI (48 + d) - 48 = nI (v * 10 + d) := by
        apply ti_ext
        rw [ti_sub (by omega) (by omega), m2, t48, nI_toInt (by omega)]
        omega
      have k2 : (10 : Int32) * nI v + nI (48 + d) - 48 = nI (v * 10 + d) := by
        rw [Int32.mul_comm, k1]
      rw [e, if_neg z10, if_neg z10, k1, e2, bd_s, k2, lt1, lt1, gI_d, A3, nI_1, nI_1]
      obtain ⟨r, w, μ', ν', t1, t2, t3⟩ := ih (c + 1) (p + 1) (v * 10 + d) fu fu2 (sI μ a0 1 (nI (p + 1))) (sI ν 78 10 (nI (p + 1))) (by omega) (by omega) (by omega) (by rw [Nat.pow_succ]; omega) (Or.inl ⟨by omega, by omega⟩) (hT.r ha (RC.s (Or.inl rfl)) (RM.s (Or.inl rfl))) ⟨by omega, sI_u _ _ _ _, sI_u _ _ _ _⟩ ((sI_o _ _ (by decide)).trans h1) ((sI_o _ _ (by decide)).trans h2)
      exact ⟨r, w, μ', ν', t1, t2, t3.pre (RC.s (Or.inl rfl)) (RM.s (Or.inl rfl))⟩
theorem dg_e {a0 B b0 n p : Nat} {lo hi : Int32} {μ ν : gs_M} (ha : a0 = 3 ∨ a0 = 5) (hT : TX B b0 n μ ν) (hA : AT a0 n p μ ν) (h1 : μ.1 a0 2 = -1) (h2 : ν.1 78 11 = -1) : ∃ (r w : Int32) (μ' ν' : gs_M), D_X4_digits a0 3 μ = some (r, μ') ∧ D_X12_number lo hi ν = some (w, ν') ∧ DG a0 n lo hi μ ν r w μ' ν' := by
  obtain ⟨g, p', μ1, ν1, t0, t1, t2, t3, t4, t5, t6, t7, -⟩ := nx_e ha hT hA
  have hT1 := hT.r ha t4 t5
  obtain ⟨g', d1, d2, d3⟩ := dt_e hT1 t3
  have h160 := hT.1
  unfold D_X4_digits D_X12_number
  rw [t1, bd_s, t2, bd_s, d2, bd_s]
  rcases d3 with e | ⟨e, hp, d, hd, rfl, e2⟩
  · rw [e, if_pos rfl, fm_e t3.2.2 (t7.trans h2), bd_s]
    refine ⟨0, -1, sI μ1 a0 2 (nI p'), _, ?_, rfl, p', t3.1, (sI_o _ _ (by decide)).trans t3.2.1, t4.trans (RC.s (Or.inr rfl)), t5.trans (RM.s (Or.inr rfl)), Or.inl ⟨p', by have := t3.1; omega, sI_u _ _ _ _, sI_u _ _ _ _⟩⟩
    show Bo_X4_digits_9 _ _ _ _ _ _ = _
    unfold Bo_X4_digits_9 B_X4_digits_86
    rw [if_neg (show ¬ (3 : Int32) < 0 by decide), gI_d, t3.2.1, d1, bd_s, wi_e, bd_s, if_pos e, if_pos rfl, gI_d, t3.2.1, fl_e (p := p') (t6.trans h1), bd0_s]
  · rw [e, if_neg z10]
    obtain ⟨r, w, μ', ν', u1, u2, u3⟩ := dg_loop (lo := lo) (hi := hi) ha 3 0 p' 0 4096 4096 μ1 ν1 (by omega) (by omega) (by omega) (by decide) (Or.inr ⟨_, d1, e⟩) hT1 t3 (t6.trans h1) (t7.trans h2)
    exact ⟨r, w, μ', ν', u1, u2, u3.pre t4 t5⟩
