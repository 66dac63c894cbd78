/-! a sweep: class and reference side by side -/
def swD (u0 u1 sh sl : Int32) : Int32 := u0 * sh / 10 - u1 * sh / 10 + sl
def swV (d fast : Int32) : Int32 := ((if 0 ≤ d then d else -d) - fast) / 20
def swM (v lim gap : Int32) : Int32 := if gap < (if lim < v then lim else v) then gap else (if lim < v then lim else v)
/-- class: nothing moves at i -/
theorem cs_stay {μ : gs_M} {a i c : Nat} {sl fast most any sh bb : Int32} {q : Nat → Int32 → Int32 → Int32 → Int32 → Int32 → Int32 → Int32 → gs_M → Option (Int32 × gs_M)} (hc : c ≤ 12) (hi : i + 1 < c) (hcol : μ.1 a 1 = nI c) (hv : ¬ 0 < swV (swD (μ.1 (a + 1) i) (μ.1 (a + 1) (i + 1)) sh sl) fast) : Bo_X1_sweep_45 q a sl fast most any sh bb (nI i) μ = q a sl fast most any sh bb (nI (i + 1)) μ := by
  unfold Bo_X1_sweep_45
  simp only [lt1, bd_s, bd0_s, ck_t, gI_d, gL_d, hcol, nI_1, nI_leI (show c < 2 ^ 31 by omega) (show i + 1 < 2 ^ 31 by omega), show ¬ c ≤ i + 1 by omega, if_false, inb_n (show i < 12 by omega) (by omega), inb_n (show i + 1 < 12 by omega) (by omega), nI_clamp (show i < 2 ^ 31 by omega), nI_clamp (show i + 1 < 2 ^ 31 by omega)]
  unfold swV swD at hv
  by_cases h : 0 ≤ μ.1 (a + 1) i * sh / 10 - μ.1 (a + 1) (i + 1) * sh / 10 + sl
  · rw [if_pos h] at hv
    rw [if_pos h]
    unfold B_X1_sweep_102
    simp only [lt1, bd_s, bd0_s, ck_t, gI_d, gL_d, if_neg hv, nI_1]
  · rw [if_neg h] at hv
    rw [if_neg h]
    unfold B_X1_sweep_102
    simp only [lt1, bd_s, bd0_s, ck_t, gI_d, gL_d, if_neg hv, nI_1]
/-- class: at i something may move, to the right -/
theorem cs_goR {μ : gs_M} {a i c : Nat} {sl fast most any sh bb d v n : Int32} {q : Nat → Int32 → Int32 → Int32 → Int32 → Int32 → Int32 → Int32 → gs_M → Option (Int32 × gs_M)} (hc : c ≤ 12) (hi : i + 1 < c) (hcol : μ.1 a 1 = nI c) (hd : d = swD (μ.1 (a + 1) i) (μ.1 (a + 1) (i + 1)) sh sl) (hv1 : v = swV d fast) (hv : 0 < v) (hd0 : ¬ d ≤ 0)
    (hn : n = swM v (if nI i = bb then μ.1 (a + 1) i - μ.1 a 2 else μ.1 (a + 1) i) (most - μ.1 (a + 1) (i + 1))) : ∃ μ' : gs_M, Bo_X1_sweep_45 q a sl fast most any sh bb (nI i) μ = q a sl fast most (if 0 < n then 1 else any) sh bb (nI (i + 1)) μ' ∧ (¬ 0 < n → μ' = μ) ∧ (0 < n → μ'.1 (a + 1) = upd (upd (μ.1 (a + 1)) i (μ.1 (a + 1) i - n)) (i + 1) (μ.1 (a + 1) (i + 1) + n) ∧ μ'.1 a = upd (upd (μ.1 a) 6 (μ.1 a 6 + n)) 7 (μ.1 a 7 + 0)) ∧ (∀ b, b ≠ a → b ≠ a + 1 → μ'.1 b = μ.1 b) ∧ μ'.2 = μ.2 := by
  have e1 : a ≠ a + 1 := by omega
  have e2 : a + 1 ≠ a := by omega
  have e3 : i + 1 ≠ i := by omega
  unfold Bo_X1_sweep_45
  simp only [lt1, bd_s, bd0_s, ck_t, gI_d, gL_d, hcol, nI_1, nI_leI (show c < 2 ^ 31 by omega) (show i + 1 < 2 ^ 31 by omega), show ¬ c ≤ i + 1 by omega, if_false, inb_n (show i < 12 by omega) (by omega), inb_n (show i + 1 < 12 by omega) (by omega), nI_clamp (show i < 2 ^ 31 by omega), nI_clamp (show i + 1 < 2 ^ 31 by omega)]
  have hd' := hd
  unfold swD at hd'
  rw [← hd']
  unfold swV at hv1
  have hx : (if 0 ≤ d then B_X1_sweep_102 q a sl fast most any sh bb (nI i) d d μ else B_X1_sweep_102 q a sl fast most any sh bb (nI i) d (-d) μ) = B_X1_sweep_102 q a sl fast most any sh bb (nI i) d (if 0 ≤ d then d else -d) μ := by
    by_cases h : 0 ≤ d
    · simp only [if_pos h]
    · simp only [if_neg h]
  rw [hx]
  unfold B_X1_sweep_102
  simp only [lt1, bd_s, bd0_s, ck_t, gI_d, gL_d]
  rw [← hv1, if_pos hv, if_neg hd0]
  unfold B_X1_sweep_131
  rw [if_neg hd0, nI_1]
  unfold B_X1_sweep_147
  have hy : (if nI i = bb then ck (inb (nI i) 12) (B_X1_sweep_180 q a sl fast most any sh bb (nI i) d (nI i) (nI (i + 1)) v (gI μ (a + 1) (nI i).toNatClampNeg - gI μ a 2) μ) else ck (inb (nI i) 12) (B_X1_sweep_180 q a sl fast most any sh bb (nI i) d (nI i) (nI (i + 1)) v (gI μ (a + 1) (nI i).toNatClampNeg) μ)) = B_X1_sweep_180 q a sl fast most any sh bb (nI i) d (nI i) (nI (i + 1)) v (if nI i = bb then μ.1 (a + 1) i - μ.1 a 2 else μ.1 (a + 1) i) μ := by
    rw [inb_n (show i < 12 by omega) (by omega), nI_clamp (show i < 2 ^ 31 by omega)]
    by_cases h : nI i = bb
    · simp only [if_pos h]; rfl
    · simp only [if_neg h]; rfl
  rw [hy]
  unfold B_X1_sweep_180
  simp only [lt1, bd_s, bd0_s, ck_t, gI_d, gL_d, inb_n (show i < 12 by omega) (by omega), inb_n (show i + 1 < 12 by omega) (by omega), nI_clamp (show i < 2 ^ 31 by omega), nI_clamp (show i + 1 < 2 ^ 31 by omega)]
  unfold swM at hn
  rw [← hn]
  by_cases hz : 0 < n
  · rw [if_pos hz, if_neg hd0]
    unfold B_X1_sweep_249 B_X1_sweep_269
    simp only [lt1, bd_s, bd0_s, ck_t, gI_d, gL_d, if_neg hd0, nI_1, if_pos hz, sI_s, sI_n _ _ _ e1, sI_n _ _ _ e2, pk_un e3, pk_un (show 7 ≠ 6 by omega), pk_un (show 6 ≠ 7 by omega), if_true]
    refine ⟨_, rfl, fun h => absurd hz h, fun _ => ⟨?_, ?_⟩, fun b h1 h2 => ?_, rfl⟩
    · simp only [sI_s, sI_n _ _ _ e1, sI_n _ _ _ e2, pk_un e3]
    · simp only [sI_s, sI_n _ _ _ e1, sI_n _ _ _ e2, pk_un e3]
    · simp only [sI_n _ _ _ h1, sI_n _ _ _ h2]
  · rw [if_neg hz, nI_1, if_neg hz]
    exact ⟨μ, rfl, fun _ => rfl, fun h => absurd h hz, fun _ _ _ => rfl, rfl⟩
/-- class: at i something may move, to the left -/
theorem cs_goL {μ : gs_M} {a i c : Nat} {sl fast most any sh bb d v n : Int32} {q : Nat → Int32 → Int32 → Int32 → Int32 → Int32 → Int32 → Int32 → gs_M → Option (Int32 × gs_M)} (hc : c ≤ 12) (hi : i + 1 < c) (hcol : μ.1 a 1 = nI c) (hd : d = swD (μ.1 (a + 1) i) (μ.1 (a + 1) (i + 1)) sh sl) (hv1 : v = swV d fast) (hv : 0 < v) (hd0 : d ≤ 0)
    (hn : n = swM v (if nI i = bb then μ.1 (a + 1) (i + 1) - μ.1 a 2 else μ.1 (a + 1) (i + 1)) (most - μ.1 (a + 1) i)) : ∃ μ' : gs_M, Bo_X1_sweep_45 q a sl fast most any sh bb (nI i) μ = q a sl fast most (if 0 < n then 1 else any) sh bb (nI (i + 1)) μ' ∧ (¬ 0 < n → μ' = μ) ∧ (0 < n → μ'.1 (a + 1) = upd (upd (μ.1 (a + 1)) (i + 1) (μ.1 (a + 1) (i + 1) - n)) i (μ.1 (a + 1) i + n) ∧ μ'.1 a = upd (upd (μ.1 a) 6 (μ.1 a 6 + 0)) 7 (μ.1 a 7 + n)) ∧ (∀ b, b ≠ a → b ≠ a + 1 → μ'.1 b = μ.1 b) ∧ μ'.2 = μ.2 := by
  have e1 : a ≠ a + 1 := by omega
  have e2 : a + 1 ≠ a := by omega
  have e3 : i ≠ i + 1 := by omega
  unfold Bo_X1_sweep_45
  simp only [lt1, bd_s, bd0_s, ck_t, gI_d, gL_d, hcol, nI_1, nI_leI (show c < 2 ^ 31 by omega) (show i + 1 < 2 ^ 31 by omega), show ¬ c ≤ i + 1 by omega, if_false, inb_n (show i < 12 by omega) (by omega), inb_n (show i + 1 < 12 by omega) (by omega), nI_clamp (show i < 2 ^ 31 by omega), nI_clamp (show i + 1 < 2 ^ 31 by omega)]
  have hd' := hd
  unfold swD at hd'
  rw [← hd']
  unfold swV at hv1
  have hx : (if 0 ≤ d then B_X1_sweep_102 q a sl fast most any sh bb (nI i) d d μ else B_X1_sweep_102 q a sl fast most any sh bb (nI i) d (-d) μ) = B_X1_sweep_102 q a sl fast most any sh bb (nI i) d (if 0 ≤ d then d else -d) μ := by
    by_cases h : 0 ≤ d
    · simp only [if_pos h]
    · simp only [if_neg h]
  rw [hx]
  unfold B_X1_sweep_102
  simp only [lt1, bd_s, bd0_s, ck_t, gI_d, gL_d]
  rw [← hv1, if_pos hv, if_pos hd0, nI_1]
  unfold B_X1_sweep_131
  rw [if_pos hd0]
  unfold B_X1_sweep_147
  have hy : (if nI i = bb then ck (inb (nI (i + 1)) 12) (B_X1_sweep_180 q a sl fast most any sh bb (nI i) d (nI (i + 1)) (nI i) v (gI μ (a + 1) (nI (i + 1)).toNatClampNeg - gI μ a 2) μ) else ck (inb (nI (i + 1)) 12) (B_X1_sweep_180 q a sl fast most any sh bb (nI i) d (nI (i + 1)) (nI i) v (gI μ (a + 1) (nI (i + 1)).toNatClampNeg) μ)) = B_X1_sweep_180 q a sl fast most any sh bb (nI i) d (nI (i + 1)) (nI i) v (if nI i = bb then μ.1 (a + 1) (i + 1) - μ.1 a 2 else μ.1 (a + 1) (i + 1)) μ := by
    rw [inb_n (show i + 1 < 12 by omega) (by omega), nI_clamp (show i + 1 < 2 ^ 31 by omega)]
    by_cases h : nI i = bb
    · simp only [if_pos h]; rfl
    · simp only [if_neg h]; rfl
  rw [hy]
  unfold B_X1_sweep_180
  simp only [lt1, bd_s, bd0_s, ck_t, gI_d, gL_d, inb_n (show i < 12 by omega) (by omega), inb_n (show i + 1 < 12 by omega) (by omega), nI_clamp (show i < 2 ^ 31 by omega), nI_clamp (show i + 1 < 2 ^ 31 by omega)]
  unfold swM at hn
  rw [← hn]
  by_cases hz : 0 < n
  · rw [if_pos hz, if_pos hd0]
    unfold B_X1_sweep_249 B_X1_sweep_269
    simp only [lt1, bd_s, bd0_s, ck_t, gI_d, gL_d, if_pos hd0, nI_1, if_pos hz, sI_s, sI_n _ _ _ e1, sI_n _ _ _ e2, pk_un e3, pk_un (show 7 ≠ 6 by omega), pk_un (show 6 ≠ 7 by omega), if_true]
    refine ⟨_, rfl, fun h => absurd hz h, fun _ => ⟨?_, ?_⟩, fun b h1 h2 => ?_, rfl⟩
    · simp only [sI_s, sI_n _ _ _ e1, sI_n _ _ _ e2, pk_un e3]
    · simp only [sI_s, sI_n _ _ _ e1, sI_n _ _ _ e2, pk_un e3]
    · simp only [sI_n _ _ _ h1, sI_n _ _ _ h2]
  · rw [if_neg hz, nI_1, if_neg hz]
    exact ⟨μ, rfl, fun _ => rfl, fun h => absurd h hz, fun _ _ _ => rfl, rfl⟩
