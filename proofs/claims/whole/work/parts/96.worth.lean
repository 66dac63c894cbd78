/-! what a rule is worth, in the class -/
theorem run1_len (L : Nat → Int32) (c : Int32) (s : List Int32) : (run1 L c s).length ≤ s.length + 1 := by
  unfold run1
  split
  · split
    · split
      · rw [List.length_cons, List.length_tail]; omega
      · rw [List.length_cons, List.length_tail, List.length_tail]; omega
    · rw [List.length_cons]; omega
  · rw [List.length_cons]; omega
theorem VF.s {μ : gs_M} {v : Int32} : VF μ (sI μ 16 5 v) := ⟨fun b b1 _ => sI_n _ _ _ b1, fun j hj => sI_o _ _ hj, rfl⟩
theorem wo_l {L code : Nat → Int32} {r m : Nat} (hr : r < 4) (hm : m ≤ 160) : ∀ (i a fu : Nat) (ap : Int32) (s : List Int32) (μ : gs_M), a + i = m → i < fu → SK μ s → s.length ≤ a → μ.1 23 r = nI m → (∀ k, k < 6 → μ.1 17 k = L k) → (∀ j, j < m → μ.1 (19 + r) j = code j) → ∃ μ', L_X6_worth_25 fu (nI r) ap (nI a) μ = some (woN L code i a ap s, μ') ∧ VF μ μ' := by
  intro i
  induction i with
  | zero =>
    intro a fu ap s μ ha hf hK hs h23 hL hc
    obtain ⟨fu, rfl⟩ : ∃ m, fu = m + 1 := ⟨fu - 1, by omega⟩
    refine ⟨μ, ?_, VF.refl⟩
    show Bo_X6_worth_25 _ _ _ _ _ = _
    unfold Bo_X6_worth_25
    rw [inb_n hr (by decide), ck_t, nI_clamp (by omega), gI_d μ 23 r, h23, if_pos (nI_le (by omega) (by omega))]
    rfl
  | succ i ih =>
    intro a fu ap s μ ha hf hK hs h23 hL hc
    obtain ⟨fu, rfl⟩ : ∃ m, fu = m + 1 := ⟨fu - 1, by omega⟩
    have e : L_X6_worth_25 (fu + 1) (nI r) ap (nI a) μ = if code a = (-63 : Int32) then (bd (D_X6_pop μ) (fun v16 u15 => if v16 = 0 then (L_X6_worth_25 fu (nI r) (0 : Int32) (nI (a + 1)) u15) else (L_X6_worth_25 fu (nI r) (1 : Int32) (nI (a + 1)) u15))) else (if code a = (-121 : Int32) then (bd (D_X6_pop μ) (fun v12 u11 => if ap = 0 then (L_X6_worth_25 fu (nI r) (1 : Int32) (nI (a + 1)) u11) else (some (v12, u11)))) else (bd0 (D_X6_step (code a) μ) (fun u9 => L_X6_worth_25 fu (nI r) ap (nI (a + 1)) u9))) := by
      show Bo_X6_worth_25 _ _ _ _ _ = _
      unfold Bo_X6_worth_25
      rw [inb_n hr (by decide), ck_t, nI_clamp (by omega), gI_d μ 23 r, h23, if_neg (nI_ge (by omega) (by omega)), ck_t, inb_n (show a < 160 by omega) (by decide), ck_t, nI_clamp (by omega), gI_d μ (19 + r) a, hc a (by omega), lt1, nI_1]
    rw [e]
    have go : ∀ (ap' : Int32) (s' : List Int32) (μ1 : gs_M), VF μ μ1 → SK μ1 s' → s'.length ≤ a + 1 → ∃ μ', L_X6_worth_25 fu (nI r) ap' (nI (a + 1)) μ1 = some (woN L code i (a + 1) ap' s', μ') ∧ VF μ μ' := by
      intro ap' s' μ1 hV hK' hl
      obtain ⟨μ', t1, t2⟩ := ih (a + 1) fu ap' s' μ1 (by omega) (by omega) hK' hl (by rw [hV.1 23 (by decide) (by decide)]; exact h23) (fun k hk => by rw [hV.1 17 (by decide) (by decide)]; exact hL k hk) (fun j hj => by rw [hV.1 (19 + r) (by omega) (by omega)]; exact hc j hj)
      exact ⟨μ', t1, hV.trans t2⟩
    have lt : s.tail.length ≤ a + 1 := by rw [List.length_tail]; omega
    by_cases q1 : code a = -63
    · rw [if_pos q1, woN_q q1]
      obtain ⟨μ1, t1, t2, t3⟩ := pop_e hK
      rw [t1, bd_s]
      by_cases q0 : hdN s = 0
      · rw [if_pos q0, if_pos q0]
        exact go 0 _ μ1 t3 t2 lt
      · rw [if_neg q0, if_neg q0]
        exact go 1 _ μ1 t3 t2 lt
    rw [if_neg q1]
    by_cases q2 : code a = -121
    · rw [if_pos q2, woN_y q2]
      obtain ⟨μ1, t1, t2, t3⟩ := pop_e hK
      rw [t1, bd_s]
      by_cases q0 : ap = 0
      · rw [if_pos q0, if_pos q0]
        exact go 1 _ μ1 t3 t2 lt
      · rw [if_neg q0, if_neg q0]
        exact ⟨μ1, rfl, t3⟩
    rw [if_neg q2]
    obtain ⟨μ1, t1, t2, t3⟩ := step_e (L := L) hK (by omega) hL (code a)
    rw [t1, bd0_s]
    have ew : woN L code (i + 1) a ap s = woN L code i (a + 1) ap (run1 L (code a) s) := by
      show (if code a = -63 then _ else if code a = -121 then _ else _) = _
      rw [if_neg q1, if_neg q2]
    rw [ew]
    exact go ap _ μ1 t3 t2 (by have := run1_len L (code a) s; omega)
theorem wo_e {L code : Nat → Int32} {r m R : Nat} {μ : gs_M} (hr : r < R) (hR : R ≤ 4) (hm : m ≤ 160) (h16 : μ.1 16 1 = nI R) (h23 : μ.1 23 r = nI m) (hL : ∀ k, k < 6 → μ.1 17 k = L k) (hc : ∀ j, j < m → μ.1 (19 + r) j = code j) : ∃ μ', D_X6_worth (nI r) μ = some (woN L code m 0 1 [], μ') ∧ VF μ μ' := by
  obtain ⟨μ', t1, t2⟩ := wo_l (L := L) (code := code) (show r < 4 by omega) hm m 0 4096 1 [] (sI μ 16 5 0) (by omega) (by omega) ⟨Nat.zero_le _, sI_u _ _ _ _, trivial⟩ (Nat.le_refl _) (by rw [sI_n _ _ _ (by decide)]; exact h23) (fun k hk => by rw [sI_n _ _ _ (by decide)]; exact hL k hk) (fun j hj => by rw [sI_n _ _ _ (by omega)]; exact hc j hj)
  refine ⟨μ', ?_, VF.s.trans t2⟩
  unfold D_X6_worth
  have hin : inN (nI r) 0 (nI R - 1) = 1 := by
    rw [nI_m1 (by omega)]
    exact inN_y (by rw [nI_toInt (by omega)]; show (0 : Int) ≤ _; omega) (by rw [nI_toInt (by omega), nI_toInt (by omega)]; omega)
  rw [gI_d μ 16 1, h16, wi_e, bd_s, hin, if_neg z10, lt1]
  exact t1
theorem he_c (x : Int32) : heN x 999 = if -999 < (if x < 999 then x else 999) then (if x < 999 then x else 999) else -999 := by
  have h1 : ((999 : Int32)).toInt = 999 := by decide
  have h2 : ((-999 : Int32)).toInt = -999 := by decide
  have h3 : (-(999 : Int32)).toInt = -999 := by decide
  unfold heN
  simp only [ti_le, ti_lt, h1, h2, h3]
  by_cases a : x.toInt < 999
  · rw [if_pos a, if_pos (show x.toInt ≤ 999 by omega)]
    by_cases b : -999 < x.toInt
    · rw [if_pos b, if_pos (show -999 ≤ x.toInt by omega)]
    · rw [if_neg b]
      by_cases c : -999 ≤ x.toInt
      · rw [if_pos c]
        apply ti_ext
        rw [h2]
        omega
      · rw [if_neg c]
  · rw [if_neg a, if_pos (show -999 < ((999 : Int32)).toInt by omega)]
    by_cases c : x.toInt ≤ 999
    · rw [if_pos c, if_pos (show -999 ≤ x.toInt by omega)]
      apply ti_ext
      rw [h1]
      omega
    · rw [if_neg c]
theorem he_b (x : Int32) : -999 ≤ (heN x 999).toInt ∧ (heN x 999).toInt ≤ 999 := by
  have h1 : ((999 : Int32)).toInt = 999 := by decide
  have h3 : (-(999 : Int32)).toInt = -999 := by decide
  unfold heN
  simp only [ti_le, h1, h3]
  split
  · split
    · omega
    · omega
  · omega
