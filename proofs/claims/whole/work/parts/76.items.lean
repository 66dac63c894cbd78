/-! items: the letters, their bounds, a number -/
def NL (k : Nat) : Nat := if k = 1 then 2 else 5
def itm (k : Nat) (g : Int32) : Int32 := if k = 0 then (if (114 : Int32) = g then 0 else if (115 : Int32) = g then 1 else if (109 : Int32) = g then 2 else if (108 : Int32) = g then 3 else if (119 : Int32) = g then 4 else -1) else if k = 1 then (if (99 : Int32) = g then 0 else if (104 : Int32) = g then 1 else -1) else (if (103 : Int32) = g then 0 else if (102 : Int32) = g then 1 else if (116 : Int32) = g then 2 else if (98 : Int32) = g then 3 else if (107 : Int32) = g then 4 else -1)
theorem itm0 (g : Int32) : itm 0 g = (if (114 : Int32) = g then 0 else if (115 : Int32) = g then 1 else if (109 : Int32) = g then 2 else if (108 : Int32) = g then 3 else if (119 : Int32) = g then 4 else -1) := rfl
theorem itm1 (g : Int32) : itm 1 g = (if (99 : Int32) = g then 0 else if (104 : Int32) = g then 1 else -1) := rfl
theorem itm2 (g : Int32) : itm 2 g = (if (103 : Int32) = g then 0 else if (102 : Int32) = g then 1 else if (116 : Int32) = g then 2 else if (98 : Int32) = g then 3 else if (107 : Int32) = g then 4 else -1) := rfl
theorem itm_s {fu k j : Nat} {g : Int32} {μ : gs_M} (hk : k ≤ 2) (hj : j < 5) (hg : g ≠ 0) (h5 : μ.1 3 5 = nI k) : L_X2_itemOf_2 (fu + 1) g (nI j) μ = if cA 0 (5 * k + j) = g then some (nI j, μ) else L_X2_itemOf_2 fu g (nI (j + 1)) μ := by
  show Bo_X2_itemOf_2 _ _ _ _ = _
  unfold Bo_X2_itemOf_2
  have e : nI k * 5 + nI j = nI (5 * k + j) := by
    rw [show (5 : Int32) = nI 5 from rfl, ← nI_add, show nI (5 * k) = nI k * nI 5 from ?_]
    have : k = 0 ∨ k = 1 ∨ k = 2 := by omega
    rcases this with rfl | rfl | rfl <;> rfl
  rw [if_neg (show ¬ (5 : Int32) ≤ nI j by rw [show (5 : Int32) = nI 5 from rfl]; exact nI_ge (by omega) (by omega)), if_neg hg, gI_d, h5, e, inb_n (show 5 * k + j < 15 by omega) (by decide), ck_t, nI_clamp (by omega), nI_1]
theorem itm_5 {fu : Nat} {g : Int32} {μ : gs_M} : L_X2_itemOf_2 (fu + 1) g (nI 5) μ = some (-1, μ) := by
  show Bo_X2_itemOf_2 _ _ _ _ = _
  unfold Bo_X2_itemOf_2
  rw [if_pos (by decide)]
theorem it_i {k : Nat} {g : Int32} {μ : gs_M} (hk : k ≤ 2) (hg : g ≠ 0) (h5 : μ.1 3 5 = nI k) : D_X2_itemOf g μ = some (itm k g, μ) := by
  show L_X2_itemOf_2 (4090 + 1 + 1 + 1 + 1 + 1 + 1) g (nI 0) μ = _
  rw [itm_s hk (by decide) hg h5, itm_s hk (by decide) hg h5, itm_s hk (by decide) hg h5, itm_s hk (by decide) hg h5, itm_s hk (by decide) hg h5, itm_5]
  have : k = 0 ∨ k = 1 ∨ k = 2 := by omega
  rcases this with rfl | rfl | rfl
  · rw [show cA 0 (5 * 0 + 0) = 114 from rfl, show cA 0 (5 * 0 + (0 + 1)) = 115 from rfl, show cA 0 (5 * 0 + (0 + 1 + 1)) = 109 from rfl, show cA 0 (5 * 0 + (0 + 1 + 1 + 1)) = 108 from rfl, show cA 0 (5 * 0 + (0 + 1 + 1 + 1 + 1)) = 119 from rfl]
    rw [itm0]
    repeat' split
    all_goals rfl
  · rw [show cA 0 (5 * 1 + 0) = 99 from rfl, show cA 0 (5 * 1 + (0 + 1)) = 104 from rfl, show cA 0 (5 * 1 + (0 + 1 + 1)) = 0 from rfl, show cA 0 (5 * 1 + (0 + 1 + 1 + 1)) = 0 from rfl, show cA 0 (5 * 1 + (0 + 1 + 1 + 1 + 1)) = 0 from rfl]
    rw [itm1, if_neg (Ne.symm hg), if_neg (Ne.symm hg), if_neg (Ne.symm hg)]
    repeat' split
    all_goals rfl
  · rw [show cA 0 (5 * 2 + 0) = 103 from rfl, show cA 0 (5 * 2 + (0 + 1)) = 102 from rfl, show cA 0 (5 * 2 + (0 + 1 + 1)) = 116 from rfl, show cA 0 (5 * 2 + (0 + 1 + 1 + 1)) = 98 from rfl, show cA 0 (5 * 2 + (0 + 1 + 1 + 1 + 1)) = 107 from rfl]
    rw [itm2]
    repeat' split
    all_goals rfl
theorem pl_s {fu k j : Nat} {g : Int32} {ν : gs_M} (hk : k ≤ 2) (hj : j < NL k) : L_X12_placeOf_2 (fu + 1) (107 + k) g (nI j) ν = if cS (2 + k) j = g then some (nI j, ν) else L_X12_placeOf_2 fu (107 + k) g (nI (j + 1)) ν := by
  show Bo_X12_placeOf_2 _ _ _ _ _ = _
  unfold Bo_X12_placeOf_2
  have e : gs_sl.getD (107 + k - 105) 0 = NL k := by
    have : k = 0 ∨ k = 1 ∨ k = 2 := by omega
    rcases this with rfl | rfl | rfl <;> rfl
  have h5 : NL k ≤ 5 := by unfold NL; split <;> omega
  rw [e, if_neg (nI_ge (by omega) (by omega)), inb_n hj (by omega), ck_t, nI_clamp (by omega), nI_1, show 107 + k - 105 = 2 + k by omega]
theorem pl_5 {fu k : Nat} {g : Int32} {ν : gs_M} (hk : k ≤ 2) : L_X12_placeOf_2 (fu + 1) (107 + k) g (nI (NL k)) ν = some (-1, ν) := by
  show Bo_X12_placeOf_2 _ _ _ _ _ = _
  unfold Bo_X12_placeOf_2
  have e : gs_sl.getD (107 + k - 105) 0 = NL k := by
    have : k = 0 ∨ k = 1 ∨ k = 2 := by omega
    rcases this with rfl | rfl | rfl <;> rfl
  have h5 : NL k ≤ 5 := by unfold NL; split <;> omega
  rw [e, if_pos (nI_le (by omega) (by omega))]
theorem pl_i {k : Nat} {g : Int32} {ν : gs_M} (hk : k ≤ 2) : D_X12_placeOf (107 + k) g ν = some (itm k g, ν) := by
  have : k = 0 ∨ k = 1 ∨ k = 2 := by omega
  rcases this with rfl | rfl | rfl
  · show L_X12_placeOf_2 (4090 + 1 + 1 + 1 + 1 + 1 + 1) (107 + 0) g (nI 0) ν = _
    rw [pl_s hk (by decide), pl_s hk (by decide), pl_s hk (by decide), pl_s hk (by decide), pl_s hk (by decide), show 0 + 1 + 1 + 1 + 1 + 1 = NL 0 from rfl, pl_5 hk]
    rw [show cS (2 + 0) 0 = 114 from rfl, show cS (2 + 0) (0 + 1) = 115 from rfl, show cS (2 + 0) (0 + 1 + 1) = 109 from rfl, show cS (2 + 0) (0 + 1 + 1 + 1) = 108 from rfl, show cS (2 + 0) (0 + 1 + 1 + 1 + 1) = 119 from rfl]
    rw [itm0]
    repeat' split
    all_goals rfl
  · show L_X12_placeOf_2 (4093 + 1 + 1 + 1) (107 + 1) g (nI 0) ν = _
    rw [pl_s hk (by decide), pl_s hk (by decide), show 0 + 1 + 1 = NL 1 from rfl, pl_5 hk]
    rw [show cS (2 + 1) 0 = 99 from rfl, show cS (2 + 1) (0 + 1) = 104 from rfl]
    rw [itm1]
    repeat' split
    all_goals rfl
  · show L_X12_placeOf_2 (4090 + 1 + 1 + 1 + 1 + 1 + 1) (107 + 2) g (nI 0) ν = _
    rw [pl_s hk (by decide), pl_s hk (by decide), pl_s hk (by decide), pl_s hk (by decide), pl_s hk (by decide), show 0 + 1 + 1 + 1 + 1 + 1 = NL 2 from rfl, pl_5 hk]
    rw [show cS (2 + 2) 0 = 103 from rfl, show cS (2 + 2) (0 + 1) = 102 from rfl, show cS (2 + 2) (0 + 1 + 1) = 116 from rfl, show cS (2 + 2) (0 + 1 + 1 + 1) = 98 from rfl, show cS (2 + 2) (0 + 1 + 1 + 1 + 1) = 107 from rfl]
    rw [itm2]
    repeat' split
    all_goals rfl
/-- a letter's number, and its bounds in both -/
theorem lb_e {k : Nat} (g : Int32) (hk : k ≤ 2) : itm k g = -1 ∨ ∃ it, it < NL k ∧ itm k g = nI it ∧ (∀ ν, D_X12_leastOf g ν = some (cA 1 (5 * k + it), ν)) ∧ (∀ ν, D_X12_mostOf g ν = some (cA 2 (5 * k + it), ν)) := by
  have : k = 0 ∨ k = 1 ∨ k = 2 := by omega
  rcases this with rfl | rfl | rfl
  · rw [itm0]
    split
    · next e => subst e; exact Or.inr ⟨0, by decide, rfl, fun _ => rfl, fun _ => rfl⟩
    split
    · next e => subst e; exact Or.inr ⟨1, by decide, rfl, fun _ => rfl, fun _ => rfl⟩
    split
    · next e => subst e; exact Or.inr ⟨2, by decide, rfl, fun _ => rfl, fun _ => rfl⟩
    split
    · next e => subst e; exact Or.inr ⟨3, by decide, rfl, fun _ => rfl, fun _ => rfl⟩
    split
    · next e => subst e; exact Or.inr ⟨4, by decide, rfl, fun _ => rfl, fun _ => rfl⟩
    exact Or.inl rfl
  · rw [itm1]
    split
    · next e => subst e; exact Or.inr ⟨0, by decide, rfl, fun _ => rfl, fun _ => rfl⟩
    split
    · next e => subst e; exact Or.inr ⟨1, by decide, rfl, fun _ => rfl, fun _ => rfl⟩
    exact Or.inl rfl
  · rw [itm2]
    split
    · next e => subst e; exact Or.inr ⟨0, by decide, rfl, fun _ => rfl, fun _ => rfl⟩
    split
    · next e => subst e; exact Or.inr ⟨1, by decide, rfl, fun _ => rfl, fun _ => rfl⟩
    split
    · next e => subst e; exact Or.inr ⟨2, by decide, rfl, fun _ => rfl, fun _ => rfl⟩
    split
    · next e => subst e; exact Or.inr ⟨3, by decide, rfl, fun _ => rfl, fun _ => rfl⟩
    split
    · next e => subst e; exact Or.inr ⟨4, by decide, rfl, fun _ => rfl, fun _ => rfl⟩
    exact Or.inl rfl
/-- a value within its letter's bounds -/
def VL (k j : Nat) (v : Int32) : Prop := (cA 1 (5 * k + j)).toInt ≤ v.toInt ∧ v.toInt ≤ (cA 2 (5 * k + j)).toInt
theorem us_v : ∀ k : Fin 3, ∀ j : Fin 5, (cA 1 (5 * k.1 + j.1)).toInt ≤ (cA 3 (5 * k.1 + j.1)).toInt ∧ (cA 3 (5 * k.1 + j.1)).toInt ≤ (cA 2 (5 * k.1 + j.1)).toInt := by decide +kernel
theorem us_e {k j : Nat} (hk : k ≤ 2) (hj : j < NL k) (ν : gs_M) : D_X12_usual (cS (2 + k) j) ν = some (cA 3 (5 * k + j), ν) := by
  have : k = 0 ∨ k = 1 ∨ k = 2 := by omega
  rcases this with rfl | rfl | rfl
  · have : j = 0 ∨ j = 1 ∨ j = 2 ∨ j = 3 ∨ j = 4 := by have : NL 0 = 5 := rfl; omega
    rcases this with rfl | rfl | rfl | rfl | rfl <;> rfl
  · have : j = 0 ∨ j = 1 := by have : NL 1 = 2 := rfl; omega
    rcases this with rfl | rfl <;> rfl
  · have : j = 0 ∨ j = 1 ∨ j = 2 ∨ j = 3 ∨ j = 4 := by have : NL 2 = 5 := rfl; omega
    rcases this with rfl | rfl | rfl | rfl | rfl <;> rfl
/-! the letters seen so far -/
def pcn (b : Nat) : Nat := b % 2 + b / 2 % 2 + b / 4 % 2 + b / 8 % 2 + b / 16 % 2
theorem bit_d : ∀ b : Fin 32, ∀ j : Fin 5, (((nI b.1 >>> (nI j.1 &&& 31)) &&& (1 : Int32)) = 1 ∧ True) ∨ (¬ ((nI b.1 >>> (nI j.1 &&& 31)) &&& (1 : Int32)) = 1 ∧ ∃ c : Fin 32, nI b.1 ||| ((1 : Int32) <<< (nI j.1 &&& 31)) = nI c.1 ∧ pcn c.1 = pcn b.1 + 1) := by decide +kernel
theorem pcn_5 : ∀ b : Fin 32, pcn b.1 ≤ 5 := by decide +kernel
