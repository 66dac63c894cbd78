/-! the heap -/
def dN (f : Nat → Int32) (b : Int32) : Nat → Nat
  | 0 => 0
  | k + 1 => dN f b k + (if b < f k then 0 else 1)
theorem dN_b (f : Nat → Int32) (b : Int32) : ∀ k, dN f b k ≤ k
  | 0 => Nat.le_refl _
  | k + 1 => by
    show dN f b k + (if b < f k then 0 else 1) ≤ k + 1
    have := dN_b f b k
    split <;> omega
theorem na_loop {μ : gs_M} {b : Int32} {N : Nat} {f : Nat → Int32} (hN : N ≤ 60) (h1 : μ.1 73 1 = nI N) (h2 : ∀ k, k < N → μ.1 74 k = f k) : ∀ (m k fu : Nat), k + m = N → m < fu → L_X0_noneAbove_4 fu b (nI (dN f b k)) (nI k) μ = some (nI (dN f b N), μ) := by
  intro m
  induction m with
  | zero =>
    intro k fu hk hf
    obtain ⟨fu, rfl⟩ : ∃ m, fu = m + 1 := ⟨fu - 1, by omega⟩
    obtain rfl : k = N := by omega
    show Bo_X0_noneAbove_4 _ _ _ _ _ = _
    unfold Bo_X0_noneAbove_4
    rw [gI_d, h1, if_pos (nI_le (Nat.le_refl _) (by omega))]
  | succ m ih =>
    intro k fu hk hf
    obtain ⟨fu, rfl⟩ : ∃ m, fu = m + 1 := ⟨fu - 1, by omega⟩
    rw [← ih (k + 1) fu (by omega) (by omega)]
    have e : dN f b (k + 1) = dN f b k + (if b < f k then 0 else 1) := rfl
    show Bo_X0_noneAbove_4 _ _ _ _ _ = _
    unfold Bo_X0_noneAbove_4
    rw [gI_d, h1, if_neg (nI_ge (show k < N by omega) (by omega)), inb_n (show k < 60 by omega) (by decide), ck_t, nI_clamp (by omega), gI_d, h2 k (by omega), lt1, lt1, nI_1, nI_1, Int32.add_zero, e]
    by_cases z : b < f k
    · rw [if_pos z, if_pos z]; rfl
    · rw [if_neg z, if_neg z]
theorem dr_loop {μ : gs_M} {b : Int32} {N : Nat} {f : Nat → Int32} (hN : N ≤ 60) (h1 : μ.1 78 45 = nI N) (h2 : ∀ k, k < N → μ.1 95 k = f k) : ∀ (m k fu : Nat), k + m = N → m < fu → L_X12_dry_4 fu b (nI (dN f b k)) (nI k) μ = some (nI (dN f b N), μ) := by
  intro m
  induction m with
  | zero =>
    intro k fu hk hf
    obtain ⟨fu, rfl⟩ : ∃ m, fu = m + 1 := ⟨fu - 1, by omega⟩
    obtain rfl : k = N := by omega
    show Bo_X12_dry_4 _ _ _ _ _ = _
    unfold Bo_X12_dry_4
    rw [gI_d, h1, if_pos (nI_le (Nat.le_refl _) (by omega))]
  | succ m ih =>
    intro k fu hk hf
    obtain ⟨fu, rfl⟩ : ∃ m, fu = m + 1 := ⟨fu - 1, by omega⟩
    rw [← ih (k + 1) fu (by omega) (by omega)]
    have e : dN f b (k + 1) = dN f b k + (if b < f k then 0 else 1) := rfl
    show Bo_X12_dry_4 _ _ _ _ _ = _
    unfold Bo_X12_dry_4
    rw [gI_d, h1, if_neg (nI_ge (show k < N by omega) (by omega)), inb_n (show k < 60 by omega) (by decide), ck_t, nI_clamp (by omega), gI_d, h2 k (by omega), lt1, lt1, nI_1, nI_1, Int32.add_zero, e]
    by_cases z : b < f k
    · rw [if_pos z, if_pos z]; rfl
    · rw [if_neg z, if_neg z]
def chC (n : Nat) : Nat → Int64
  | 0 => 1
  | k + 1 => (chC n k * Int32.toInt64 (nI n - nI k)) / Int32.toInt64 (nI (k + 1))
def chM (n t : Nat) : Nat → Int64
  | 0 => 1
  | k + 1 => (chM n t k * Int32.toInt64 ((nI n - nI t) + nI (k + 1))) / Int32.toInt64 (nI (k + 1))
theorem nzl_n : ∀ k, k < 11 → nzl (Int32.toInt64 (nI (k + 1))) = true := by decide +kernel
theorem cch_loop {μ : gs_M} {n t : Nat} (ht : t ≤ 10) : ∀ (m k fu : Nat), k + m = t → m < fu → L_X0_choices_5 fu (nI n) (nI t) (chC n k) (nI k) μ = some (chC n t, μ) := by
  intro m
  induction m with
  | zero =>
    intro k fu hk hf
    obtain ⟨fu, rfl⟩ : ∃ m, fu = m + 1 := ⟨fu - 1, by omega⟩
    obtain rfl : k = t := by omega
    show Bo_X0_choices_5 _ _ _ _ _ _ = _
    unfold Bo_X0_choices_5
    rw [if_pos (nI_le (Nat.le_refl _) (by omega))]
  | succ m ih =>
    intro k fu hk hf
    obtain ⟨fu, rfl⟩ : ∃ m, fu = m + 1 := ⟨fu - 1, by omega⟩
    rw [← ih (k + 1) fu (by omega) (by omega)]
    show Bo_X0_choices_5 _ _ _ _ _ _ = _
    unfold Bo_X0_choices_5
    rw [if_neg (nI_ge (show k < t by omega) (by omega)), nI_1, nzl_n k (by omega), ck_t, lt1]
    rfl
theorem mch_loop {μ : gs_M} {n t : Nat} (ht : t ≤ 10) : ∀ (m k fu : Nat), k + m = t → m < fu → L_X12_choose_5 fu (nI n) (nI t) (chM n t k) (nI (k + 1)) μ = some (chM n t t, μ) := by
  intro m
  induction m with
  | zero =>
    intro k fu hk hf
    obtain ⟨fu, rfl⟩ : ∃ m, fu = m + 1 := ⟨fu - 1, by omega⟩
    obtain rfl : k = t := by omega
    show Bo_X12_choose_5 _ _ _ _ _ _ = _
    unfold Bo_X12_choose_5
    rw [if_pos (nI_lt (show k < k + 1 by omega) (by omega))]
  | succ m ih =>
    intro k fu hk hf
    obtain ⟨fu, rfl⟩ : ∃ m, fu = m + 1 := ⟨fu - 1, by omega⟩
    rw [← ih (k + 1) fu (by omega) (by omega)]
    show Bo_X12_choose_5 _ _ _ _ _ _ = _
    unfold Bo_X12_choose_5
    rw [if_neg (nI_nlt (show k + 1 ≤ t by omega) (by omega)), nzl_n k (by omega), ck_t, lt1, nI_1]
    rfl
theorem ch_eq : ∀ n, n < 61 → ∀ t, t < 11 → t ≤ n → chC n t = chM n t t ∧ 0 < lg_cmp (chC n t) 0 ∧ nzl (chC n t) = true := by decide +kernel
theorem ch_z : ∀ n, n < 10 → ∀ t, t < 11 → n < t → chC n t = 0 := by decide +kernel
def mP (N d t : Nat) : Int32 := Int64.toInt32 ((chC d t * 1000000) / chC N t)
theorem mP_n : ∀ N, N < 61 → ∀ d, d < 61 → d ≤ N → ∀ t, t < 11 → t ≤ N → 0 ≤ mP N d t := by decide +kernel
