/-! a term -/
theorem EV.bin {ν μ μ' : gs_M} {m0 m m' : Nat} {x y v c : Int32} (h0 : m0 ≤ m) (h1 : m ≤ m') (hx : EV ν μ m0 m x) (hc : ∀ j, j < m → μ'.1 6 j = μ.1 6 j) (hy : EV ν μ' m m' y) (hop : μ'.1 6 m' = c) (hk : OKc c) (hj : LB ν → BD x → BD y → BD v ∧ ∀ s, run1 (Lm ν) c (y :: x :: s) = v :: s) : EV ν μ' m0 (m' + 1) v := by
  intro hL
  obtain ⟨x1, x2, x3⟩ := hx hL
  obtain ⟨y1, y2, y3⟩ := hy hL
  obtain ⟨v1, v2⟩ := hj hL x1 y1
  refine ⟨v1, fun s => ?_, fun j j1 j2 => ?_⟩
  case refine_2 =>
    by_cases q1 : j < m
    · rw [hc j q1]
      exact x3 j j1 q1
    · by_cases q2 : j < m'
      · exact y3 j (by omega) q2
      · rw [show j = m' by omega, hop]
        exact hk
  rw [show m' + 1 - m0 = (m - m0) + ((m' - m) + 1) by omega, runN_add, show m0 + (m - m0) = m by omega, runN_code (code := μ.1 6) (code' := μ'.1 6) (m - m0) m0 s (fun j j1 j2 => hc j (by omega)), x2, runN_add, y2, show m + (m' - m) = m' by omega]
  show run1 (Lm ν) (μ'.1 6 m') (y :: x :: s) = v :: s
  rw [hop]
  exact v2 s
theorem r1_b {L : Nat → Int32} {g : Nat} {x y : Int32} (hg : g = 38 ∨ g = 42 ∨ g = 43 ∨ g = 45 ∨ g = 47 ∨ g = 60 ∨ g = 61 ∨ g = 62 ∨ g = 124) (s : List Int32) : run1 L (-(nI g)) (y :: x :: s) = jn (nI g) x y :: s := by
  unfold run1
  rcases hg with rfl | rfl | rfl | rfl | rfl | rfl | rfl | rfl | rfl <;> (rw [if_pos (by decide), if_pos (by decide), if_neg (by decide)]; rfl)
theorem okc_b {g : Nat} (hg : g = 33 ∨ g = 38 ∨ g = 42 ∨ g = 43 ∨ g = 45 ∨ g = 47 ∨ g = 60 ∨ g = 61 ∨ g = 62 ∨ g = 124) : OKc (-(nI g)) := by
  unfold OKc
  rcases hg with rfl | rfl | rfl | rfl | rfl | rfl | rfl | rfl | rfl | rfl <;> decide
