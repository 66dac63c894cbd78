/-! pouring onto the middle, laying evenly -/
theorem pm_loop {a k c o F h : Nat} (hk : k < 4) (hF : F ≤ c * h) (hF2 : F ≤ 480) (hh : h ≤ 40) : ∀ (m n fu fu2 : Nat) (μ ν : gs_M), n + m = F → m < fu → m < fu2 → HC μ ν a k c o → μ.1 a 8 = nI h → su (μ.1 (a + 1)) c = n → ∃ μ' ν', L_X1_pourOntoMiddle_2 fu a (nI F) (nI n) μ = some μ' ∧ L_X12_pours_11 fu2 (nI k) (nI F) 0 (nI c) (nI n) ν = some ν' ∧ HC μ' ν' a k c o ∧ FC μ μ' a ∧ FM ν ν' k := by
  intro m
  induction m with
  | zero =>
    intro n fu fu2 μ ν hn hf hf2 hC h8 hs
    obtain ⟨fu, rfl⟩ : ∃ m, fu = m + 1 := ⟨fu - 1, by omega⟩
    obtain ⟨fu2, rfl⟩ : ∃ m, fu2 = m + 1 := ⟨fu2 - 1, by omega⟩
    refine ⟨μ, ν, ?_, ?_, hC, FC.refl, FM.refl⟩
    · show Bo_X1_pourOntoMiddle_2 _ _ _ _ _ = _
      unfold Bo_X1_pourOntoMiddle_2
      rw [if_pos (nI_le (by omega) (by omega))]
    · show Bo_X12_pours_11 _ _ _ _ _ _ _ = _
      unfold Bo_X12_pours_11
      rw [if_pos (nI_le (by omega) (by omega))]
  | succ m ih =>
    intro n fu fu2 μ ν hn hf hf2 hC h8 hs
    obtain ⟨fu, rfl⟩ : ∃ m, fu = m + 1 := ⟨fu - 1, by omega⟩
    obtain ⟨fu2, rfl⟩ : ∃ m, fu2 = m + 1 := ⟨fu2 - 1, by omega⟩
    have hC' := hC
    obtain ⟨⟨hc2, hc12, ho6, f1, w0, -⟩, hu⟩ := hC'
    have hnF : ¬ nI F ≤ nI n := nI_ge (by omega) (by omega)
    obtain ⟨M, hM, eM⟩ : ∃ M, M < c ∧ (if nI n - nI n / 2 * 2 = 0 then (nI c - 1) / 2 else nI c / 2) = nI M := by
      rw [show (2 : Int32) = nI 2 from rfl]
      by_cases z : nI n - nI n / nI 2 * nI 2 = 0
      · rw [if_pos z, nI_m1 (by omega), pk_div (by omega) (by omega) (by omega)]
        exact ⟨(c - 1) / 2, by omega, rfl⟩
      · rw [if_neg z, pk_div (by omega) (by omega) (by omega)]
        exact ⟨c / 2, by omega, rfl⟩
    have hcF : ((F : Nat) : Int) ≤ (c : Int) * h := by
      have : ((F : Nat) : Int) ≤ ((c * h : Nat) : Int) := by omega
      rw [Int.natCast_mul] at this
      exact this
    obtain ⟨j, j1, j2, n1, n2⟩ := near_e hk hC h8 hh hM (by omega)
    obtain ⟨u0, u1, u2⟩ := hu j (by omega)
    have c1 : (1 : Int32).toInt = 1 := by decide
    have e1 : (μ.1 (a + 1) j + 1).toInt = (μ.1 (a + 1) j).toInt + 1 := by rw [ti_add (by rw [c1]; omega) (by rw [c1]; omega), c1]
    obtain ⟨a1, a2, a3⟩ := hC.un (x := μ.1 (a + 1) j + 1) hk (show j < 12 by omega) (by omega) (by omega)
    obtain ⟨μ1, ν1, t1, t2, t3, t4, t5, t6⟩ := rest_e (y := 0) hk a1
    have hs1 : su (μ1.1 (a + 1)) c = ((n + 1 : Nat) : Int) := by
      rw [t6.2.2.1, sI_s, su_upd j1, e1, hs]
      omega
    have g8 : μ1.1 a 8 = nI h := by rw [t4.2.1 8 (by decide) (by decide), a2.2.1 8 (by decide) (by decide)]; exact h8
    obtain ⟨μ', ν', v1, v2, v3, v4, v5⟩ := ih (n + 1) fu fu2 μ1 ν1 (by omega) (by omega) (by omega) t3 g8 hs1
    have t1' : D_X1_restWith a 0 (sI μ (a + 1) j (μ.1 (a + 1) j + 1)) = some μ1 := t1
    refine ⟨μ', ν', ?_, ?_, v3, (a2.trans t4).trans v4, (a3.trans t5).trans v5⟩
    · show Bo_X1_pourOntoMiddle_2 _ _ _ _ _ = _
      unfold Bo_X1_pourOntoMiddle_2 B_X1_pourOntoMiddle_31
      have body : (bd (D_X1_nearestNotFull a (nI M) μ) (fun v3 u2 => if v3 = (-1 : Int32) then (some u2) else (ck (inb v3 12) (ck (inb v3 12) (lt1 (sI u2 (a + 1) (Int32.toNatClampNeg v3) ((gI u2 (a + 1) (Int32.toNatClampNeg v3)) + (1 : Int32))) (fun u7 => bd0 (D_X1_restWith a (0 : Int32) u7) (fun u9 => L_X1_pourOntoMiddle_2 fu a (nI F) (nI n + (1 : Int32)) u9))))))) = some μ' := by
        rw [n1, bd_s, if_neg (nI_nm1 (by omega)), inb_n (show j < 12 by omega) (by decide), ck_t, ck_t, nI_clamp (by omega), lt1, gI_d, t1', bd0_s, nI_1]
        exact v1
      rw [if_neg hnF, gI_d, f1]
      by_cases z : nI n - nI n / 2 * 2 = 0
      · rw [if_pos z] at eM ⊢
        rw [eM]; exact body
      · rw [if_neg z] at eM ⊢
        rw [eM]; exact body
    · show Bo_X12_pours_11 _ _ _ _ _ _ _ = _
      unfold Bo_X12_pours_11 B_X12_pours_51 B_X12_pours_54
      have body : (bd (D_X12_nearest (nI k) (nI M) ν) (fun v3 u2 => bd (D_X12_placeIn (nI k) v3 u2) (fun v3 u2 => ck (inb v3 81) (ck (inb v3 81) (lt1 (sI u2 89 (Int32.toNatClampNeg v3) ((gI u2 89 (Int32.toNatClampNeg v3)) + (1 : Int32))) (fun u6 => if (0 : Int32) = 0 then (bd0 (D_X12_rests (nI k) (0 : Int32) u6) (fun u9 => L_X12_pours_11 fu2 (nI k) (nI F) 0 (nI c) (nI n + (1 : Int32)) u9)) else (L_X12_pours_11 fu2 (nI k) (nI F) 0 (nI c) (nI n + (1 : Int32)) u6))))))) = some ν' := by
        rw [n2, bd_s, mpl_e, bd_s, inb_n (show 28 + 12 * k + j < 81 by omega) (by decide), ck_t, ck_t, nI_clamp (by omega), lt1, gI_d, ← u0, if_pos rfl, t2, bd0_s, nI_1]
        exact v2
      rw [if_neg hnF, if_pos rfl]
      by_cases z : nI n - nI n / 2 * 2 = 0
      · rw [if_pos z] at eM ⊢
        rw [eM]; exact body
      · rw [if_neg z] at eM ⊢
        rw [eM]; exact body
/-- an even share -/
def evN (c n i : Nat) : Nat := if i < c then n / c + (if i < n % c then 1 else 0) else 0
theorem evN_s {c n i : Nat} (hc : 0 < c) : evN c (n + 1) i = evN c n i + (if i = n % c then 1 else 0) := by
  unfold evN
  have hr : n % c < c := Nat.mod_lt _ hc
  by_cases z : i < c
  · rw [if_pos z, if_pos z]
    have e := Nat.div_add_mod n c
    by_cases q : n % c + 1 < c
    · have e1 : (n + 1) / c = n / c := by
        rw [Nat.div_eq_iff hc]
        refine ⟨?_, ?_⟩
        · have := Nat.mul_comm c (n / c); omega
        · have := Nat.mul_comm c (n / c); omega
      have e2 : (n + 1) % c = n % c + 1 := by
        have h2 := Nat.div_add_mod (n + 1) c
        rw [e1] at h2
        omega
      rw [e1, e2]
      split <;> split <;> split <;> omega
    · have q' : n % c + 1 = c := by omega
      have hn : n + 1 = c * (n / c + 1) := by rw [Nat.mul_add, Nat.mul_one]; omega
      have e1 : (n + 1) / c = n / c + 1 := by rw [hn, Nat.mul_div_cancel_left _ hc]
      have e2 : (n + 1) % c = 0 := by rw [hn]; exact Nat.mul_mod_right _ _
      rw [e1, e2]
      split <;> split <;> split <;> omega
  · rw [if_neg z, if_neg z, if_neg (by omega)]
theorem cev_loop {a c F : Nat} (hc2 : 2 ≤ c) (hc : c ≤ 12) (hF : F ≤ 480) : ∀ (m i fu : Nat) (μ : gs_M), i + m = c → m < fu → μ.1 a 1 = nI c → ∃ μ' : gs_M, L_X1_layEvenly_2 fu a (nI F) (nI i) μ = some μ' ∧ (∀ j, i ≤ j → j < c → μ'.1 (a + 1) j = nI (evN c F j)) ∧ (∀ j, j < i ∨ c ≤ j → μ'.1 (a + 1) j = μ.1 (a + 1) j) ∧ (∀ b, b ≠ a + 1 → μ'.1 b = μ.1 b) ∧ μ'.2 = μ.2 := by
  intro m
  induction m with
  | zero =>
    intro i fu μ hi hf f1
    obtain ⟨fu, rfl⟩ : ∃ m, fu = m + 1 := ⟨fu - 1, by omega⟩
    refine ⟨μ, ?_, fun j h1 h2 => absurd h1 (by omega), fun _ _ => rfl, fun _ _ => rfl, rfl⟩
    show Bo_X1_layEvenly_2 _ _ _ _ _ = _
    unfold Bo_X1_layEvenly_2
    rw [gI_d, f1, if_pos (nI_le (by omega) (by omega))]
  | succ m ih =>
    intro i fu μ hi hf f1
    obtain ⟨fu, rfl⟩ : ∃ m, fu = m + 1 := ⟨fu - 1, by omega⟩
    obtain ⟨μ', t1, t2, t3, t4, t5⟩ := ih (i + 1) fu (sI μ (a + 1) i (nI (evN c F i))) (by omega) (by omega) (by rw [sI_n _ _ _ (by omega)]; exact f1)
    refine ⟨μ', ?_, fun j h1 h2 => ?_, fun j hj => ?_, fun b hb => ?_, t5⟩
    · refine Eq.trans ?_ t1
      show Bo_X1_layEvenly_2 _ _ _ _ _ = _
      unfold Bo_X1_layEvenly_2 B_X1_layEvenly_36
      rw [gI_d, f1, if_neg (nI_ge (show i < c by omega) (by omega)), nzi_t (nI_ne0 (by omega) (by omega)), ck_t, ck_t, pk_rem (by omega) (by omega) (by omega), pk_div (by omega) (by omega) (by omega), inb_n (show i < 12 by omega) (by decide), ck_t, nI_clamp (by omega), lt1, lt1, nI_1, nI_1, Int32.add_zero]
      have hr : F % c < c := Nat.mod_lt _ (by omega)
      unfold evN
      rw [if_pos (show i < c by omega)]
      by_cases z : F % c ≤ i
      · rw [if_pos (nI_le z (by omega)), if_neg (by omega)]; rfl
      · rw [if_neg (nI_ge (by omega) (by omega)), if_pos (by omega)]; rfl
    · by_cases q : j = i
      · subst q
        rw [t3 j (by omega), sI_s, pk_us]
      · exact t2 j (by omega) h2
    · rw [t3 j (by omega), sI_s, pk_un (by omega)]
    · rw [t4 b hb, sI_n _ _ _ hb]
theorem mev_loop {k c F : Nat} (hk : k < 4) (hc2 : 2 ≤ c) (hc : c ≤ 12) (hF : F ≤ 480) : ∀ (m n fu : Nat) (ν : gs_M), n + m = F → m < fu → (∀ i, i < 12 → ν.1 89 (28 + 12 * k + i) = nI (evN c n i)) → ∃ ν' : gs_M, L_X12_pours_11 fu (nI k) (nI F) 1 (nI c) (nI n) ν = some ν' ∧ (∀ i, i < 12 → ν'.1 89 (28 + 12 * k + i) = nI (evN c F i)) ∧ FM ν ν' k := by
  intro m
  induction m with
  | zero =>
    intro n fu ν hn hf hu
    obtain ⟨fu, rfl⟩ : ∃ m, fu = m + 1 := ⟨fu - 1, by omega⟩
    obtain rfl : n = F := by omega
    refine ⟨ν, ?_, hu, FM.refl⟩
    show Bo_X12_pours_11 _ _ _ _ _ _ _ = _
    unfold Bo_X12_pours_11
    rw [if_pos (nI_le (by omega) (by omega))]
  | succ m ih =>
    intro n fu ν hn hf hu
    obtain ⟨fu, rfl⟩ : ∃ m, fu = m + 1 := ⟨fu - 1, by omega⟩
    have hr : n % c < c := Nat.mod_lt _ (by omega)
    obtain ⟨ν1, hν1⟩ : ∃ ν1, ν1 = sI ν 89 (28 + 12 * k + n % c) (nI (evN c n (n % c) + 1)) := ⟨_, rfl⟩
    have e5 : ν1.1 89 = upd (ν.1 89) (28 + 12 * k + n % c) (nI (evN c n (n % c) + 1)) := by rw [hν1, sI_s]
    obtain ⟨ν', t1, t2, t3⟩ := ih (n + 1) fu ν1 (by omega) (by omega) (fun i hi => by
      rw [e5, evN_s (by omega)]
      by_cases q : i = n % c
      · rw [q, pk_us, if_pos rfl]
      · rw [pk_un (by omega), if_neg q, hu i hi]; rfl)
    refine ⟨ν', ?_, t2, FM.trans ⟨fun b _ h => by rw [hν1, sI_n _ _ _ h], fun j _ _ => by rw [hν1, sI_n _ _ _ (by decide)], fun j hj => by rw [e5, pk_un (by omega)], by rw [hν1]; rfl⟩ t3⟩
    refine Eq.trans ?_ t1
    show Bo_X12_pours_11 _ _ _ _ _ _ _ = _
    unfold Bo_X12_pours_11 B_X12_pours_54
    rw [if_neg (nI_ge (show n < F by omega) (by omega)), if_neg z10, nzi_t (nI_ne0 (by omega) (by omega)), ck_t, pk_rem (by omega) (by omega) (by omega), mpl_e, bd_s, inb_n (show 28 + 12 * k + n % c < 81 by omega) (by decide), ck_t, ck_t, nI_clamp (by omega), lt1, if_neg z10, gI_d, hu (n % c) (by omega), nI_1, nI_1, ← hν1]
theorem fz_loop {a : Nat} {F t : Int32} : ∀ (m i fu : Nat) (μ : gs_M), i + m = 12 → ∃ μ' : gs_M, L_X1_fill_2 (fu + m) a F t (nI i) μ = L_X1_fill_2 fu a F t 12 μ' ∧ (∀ j, i ≤ j → j < 12 → μ'.1 (a + 1) j = 0) ∧ (∀ j, j < i → μ'.1 (a + 1) j = μ.1 (a + 1) j) ∧ (∀ b, b ≠ a + 1 → μ'.1 b = μ.1 b) ∧ μ'.2 = μ.2 := by
  intro m
  induction m with
  | zero =>
    intro i fu μ hi
    obtain rfl : i = 12 := by omega
    exact ⟨μ, rfl, fun j h1 h2 => absurd h1 (by omega), fun _ _ => rfl, fun _ _ => rfl, rfl⟩
  | succ m ih =>
    intro i fu μ hi
    obtain ⟨μ', t1, t2, t3, t4, t5⟩ := ih (i + 1) fu (sI μ (a + 1) i 0) (by omega)
    refine ⟨μ', ?_, fun j h1 h2 => ?_, fun j hj => ?_, fun b hb => ?_, t5⟩
    · refine Eq.trans ?_ t1
      show Bo_X1_fill_2 _ _ _ _ _ _ = _
      unfold Bo_X1_fill_2
      rw [if_neg (show ¬ (12 : Int32) ≤ nI i from nI_ge (a := i) (b := 12) (by omega) (by omega)), inb_n (show i < 12 by omega) (by omega), ck_t, nI_clamp (by omega), lt1, nI_1]
      rfl
    · by_cases q : j = i
      · subst q
        rw [t3 j (by omega), sI_s, pk_us]
      · exact t2 j (by omega) h2
    · rw [t3 j (by omega), sI_s, pk_un (by omega)]
    · rw [t4 b hb, sI_n _ _ _ hb]
