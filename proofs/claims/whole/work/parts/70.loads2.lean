/-- all holds filled as told, but one -/
def PA (μ : gs_M) (v : Nat) (ν : gs_M) (s p : Nat) (fit bo sa : Int32) (k : Nat) : Prop := PH μ (v + 2 + 2 * k) k (dC ν s k) (dH ν s k) (dO ν p k) (dF ν p k) (dT ν p k) (if nI k = fit then bo else dB ν p k) (if nI k = fit then sa else dS ν p k) (ν.1 83)
theorem lay_loop {ν : gs_M} {st s p r v : Nat} (hv : 26 ≤ v) : ∀ (m k fu : Nat) (μ : gs_M), k + m = r → m < fu → cU μ ν st → sPr μ ν s p r → (∀ i, i < r → HD ν st s p i) → μ.1 v 1 = nI r → ∃ μ', L_X11_lay_15 fu v (nI s) (nI p) (nI k) μ = some μ' ∧ (∀ i, k ≤ i → i < r → PA μ' v ν s p (-1) 0 0 i ∧ CF (μ'.1 (v + 2 + 2 * i)) (ν.1 83) (dC ν s i) (dH ν s i) (dO ν p i) (dB ν p i) (dS ν p i)) ∧ (∀ b, b < v + 2 + 2 * k ∨ v + 2 + 2 * r ≤ b → μ'.1 b = μ.1 b) ∧ μ'.2 = μ.2 := by
  intro m
  induction m with
  | zero =>
    intro k fu μ hk hf hU hsp hD h1
    obtain ⟨fu, rfl⟩ : ∃ m, fu = m + 1 := ⟨fu - 1, by omega⟩
    have hr4 := (sr_e hsp).2.2.2.2.2.2.2
    refine ⟨μ, ?_, fun i h1 h2 => absurd h1 (by omega), fun _ _ => rfl, rfl⟩
    show Bo_X11_lay_15 _ _ _ _ _ _ = _
    unfold Bo_X11_lay_15
    rw [gI_d, h1, if_pos (nI_le (by omega) (by omega))]
  | succ m ih =>
    intro k fu μ hk hf hU hsp hD h1
    obtain ⟨fu, rfl⟩ : ∃ m, fu = m + 1 := ⟨fu - 1, by omega⟩
    have hr4 := (sr_e hsp).2.2.2.2.2.2.2
    obtain ⟨μ1, t1, t2, t3, t4, t5, -⟩ := lay1_e (q15 := L_X11_lay_15 fu) hv hU hsp (hD k (by omega)) (show k < r by omega) h1
    have hT : TB μ μ1 := fun b b1 b2 => t4 b (by omega) (by omega)
    obtain ⟨μ', u1, u2, u3, u4⟩ := ih (k + 1) fu μ1 (by omega) (by omega) (hT.u hU) (hT.sp hsp) hD (by rw [t4 v (by omega) (by omega)]; exact h1)
    refine ⟨μ', t1.trans u1, fun i i1 i2 => ?_, fun b hb => by rw [u3 b (by omega), t4 b (by omega) (by omega)], u4.trans t5⟩
    by_cases q : i = k
    · subst q
      rw [u3 (v + 2 + 2 * i) (by omega)]
      refine ⟨?_, t3⟩
      unfold PA
      rw [if_neg (nI_nm1 (by omega)), if_neg (nI_nm1 (by omega))]
      exact t2.go (u3 _ (by omega)) (u3 _ (by omega))
    · exact u2 i (by omega) i2
theorem lay_e {μ ν : gs_M} {st s p r v : Nat} (hv : 26 ≤ v) (hU : cU μ ν st) (hsp : sPr μ ν s p r) (hD : ∀ i, i < r → HD ν st s p i) : ∃ μ', D_X11_lay v (nI s) (nI p) μ = some μ' ∧ (μ'.1 v 1 = nI r ∧ μ'.1 v 2 = 0 ∧ μ'.1 v 3 = 0 ∧ μ'.1 v 4 = 0) ∧ (∀ i, i < r → PA μ' v ν s p (-1) 0 0 i ∧ CF (μ'.1 (v + 2 + 2 * i)) (ν.1 83) (dC ν s i) (dH ν s i) (dO ν p i) (dB ν p i) (dS ν p i)) ∧ FW v μ μ' ∧ μ'.2 v 5 = 0 := by
  obtain ⟨a1, a2, a3, a4, a5, a6, a7, a8⟩ := sr_e hsp
  obtain ⟨μ1, hμ1⟩ : ∃ μ1, μ1 = sL (sI (sI (sI (sI μ v 1 (nI r)) v 2 0) v 3 0) v 4 0) v 5 0 := ⟨_, rfl⟩
  have e1 : ∀ b, b ≠ v → μ1.1 b = μ.1 b := fun b h => by rw [hμ1, sL_I, sI_n _ _ _ h, sI_n _ _ _ h, sI_n _ _ _ h, sI_n _ _ _ h]
  have e2 : μ1.1 v = upd (upd (upd (upd (μ.1 v) 1 (nI r)) 2 0) 3 0) 4 0 := by rw [hμ1, sL_I, sI_s, sI_s, sI_s, sI_s]
  have e3 : μ1.2 v 5 = 0 := by rw [hμ1, sL_s, pk_uLs]
  have e4 : ∀ b, b ≠ v → μ1.2 b = μ.2 b := fun b h => by rw [hμ1, sL_n _ _ _ h, sI_L, sI_L, sI_L, sI_L]
  have hT : TB μ μ1 := fun b b1 b2 => e1 b (by omega)
  obtain ⟨μ', u1, u2, u3, u4⟩ := lay_loop (ν := ν) hv r 0 4096 μ1 (by omega) (by omega) (hT.u hU) (hT.sp hsp) hD (by rw [e2, pk_un (by decide), pk_un (by decide), pk_un (by decide), pk_us])
  refine ⟨μ', ?_, ?_, fun i hi => u2 i (by omega) hi, ⟨fun b hb => by rw [u3 b (by omega), e1 b (by omega)], fun b hb => by rw [u4, e4 b hb]⟩, by rw [u4]; exact e3⟩
  · unfold D_X11_lay D_X10_startAnew B_X10_startAnew_11
    rw [a1, bd_s]
    have hs : (if (4 : Int32) ≤ nI r then lt1 (sI μ v 1 (4 : Int32)) (fun u1 => lt1 (sI u1 v 2 (0 : Int32)) (fun u2 => lt1 (sI u2 v 3 (0 : Int32)) (fun u3 => lt1 (sI u3 v 4 (0 : Int32)) (fun u4 => lt1 (sL u4 v 5 (0 : Int64)) (fun u5 => some u5))))) else lt1 (sI μ v 1 (nI r)) (fun u1 => lt1 (sI u1 v 2 (0 : Int32)) (fun u2 => lt1 (sI u2 v 3 (0 : Int32)) (fun u3 => lt1 (sI u3 v 4 (0 : Int32)) (fun u4 => lt1 (sL u4 v 5 (0 : Int64)) (fun u5 => some u5)))))) = some μ1 := by
      by_cases z : r = 4
      · subst z
        rw [if_pos (by decide), hμ1]
        rfl
      · rw [if_neg (show ¬ (4 : Int32) ≤ nI r from nI_ge (a := r) (b := 4) (by omega) (by omega)), hμ1]
        rfl
    rw [hs, bd0_s]
    exact u1
  · rw [u3 v (by omega), e2]
    exact ⟨by rw [pk_un (by decide), pk_un (by decide), pk_un (by decide), pk_us], by rw [pk_un (by decide), pk_un (by decide), pk_us], by rw [pk_un (by decide), pk_us], by rw [pk_us]⟩
/-! the reference loads -/
theorem lz_loop {x1 x2 x3 x4 x5 : Int32} {z6 : Int64} : ∀ (m i fu : Nat) (ν : gs_M), i + m = 81 → ∃ ν' : gs_M, L_X12_loads_3 (fu + m) x1 x2 x3 x4 x5 z6 (nI i) ν = L_X12_loads_3 fu x1 x2 x3 x4 x5 z6 (nI 81) ν' ∧ (∀ j, i ≤ j → j < 81 → ν'.1 89 j = 0) ∧ (∀ j, j < i → ν'.1 89 j = ν.1 89 j) ∧ (∀ b, b ≠ 89 → ν'.1 b = ν.1 b) ∧ ν'.2 = ν.2 := by
  intro m
  induction m with
  | zero =>
    intro i fu ν hi
    obtain rfl : i = 81 := by omega
    exact ⟨ν, rfl, fun j h1 h2 => absurd h1 (by omega), fun _ _ => rfl, fun _ _ => rfl, rfl⟩
  | succ m ih =>
    intro i fu ν hi
    obtain ⟨ν', t1, t2, t3, t4, t5⟩ := ih (i + 1) fu (sI ν 89 i 0) (by omega)
    refine ⟨ν', ?_, fun j h1 h2 => ?_, fun j hj => ?_, fun b hb => ?_, t5⟩
    · refine Eq.trans ?_ t1
      show Bo_X12_loads_3 _ _ _ _ _ _ _ _ _ = _
      unfold Bo_X12_loads_3
      rw [if_neg (show ¬ (81 : Int32) ≤ nI i from nI_ge (a := i) (b := 81) (by omega) (by omega)), inb_n (show i < 81 by omega) (by omega), ck_t, nI_clamp (by omega), lt1, nI_1]
      rfl
    · by_cases q : j = i
      · subst q
        rw [t3 j (by omega), sI_s, pk_us]
      · exact t2 j (by omega) h2
    · rw [t3 j (by omega), sI_s, pk_un (by omega)]
    · rw [t4 b hb, sI_n _ _ _ hb]
/-- the told tables of the reference stay -/
def TM (ν ν' : gs_M) : Prop := ν'.1 83 = ν.1 83 ∧ ν'.1 84 = ν.1 84 ∧ ν'.1 85 = ν.1 85 ∧ ν'.1 86 = ν.1 86
theorem HC.row {μ ν ν' : gs_M} {a k c o : Nat} (hk : k < 4) (h : HC μ ν a k c o) (hp : ν'.1 83 = ν.1 83) (hw : ∀ j, 7 * k ≤ j → j < 7 * k + 7 → ν'.1 89 j = ν.1 89 j) (hu : ∀ i, i < 12 → ν'.1 89 (28 + 12 * k + i) = ν.1 89 (28 + 12 * k + i)) : HC μ ν' a k c o := by
  obtain ⟨hF, hU⟩ := h
  refine ⟨?_, hU.go (fun _ _ => rfl) hu⟩
  rw [hp]
  unfold HF at *
  rw [hw (7 * k) (by omega) (by omega), hw (7 * k + 1) (by omega) (by omega), hw (7 * k + 2) (by omega) (by omega), hw (7 * k + 3) (by omega) (by omega), hw (7 * k + 4) (by omega) (by omega), hw (7 * k + 5) (by omega) (by omega), hw (7 * k + 6) (by omega) (by omega)]
  exact hF
theorem ml_loop {μ νt : gs_M} {st s p r v : Nat} {fit bo sa : Int32} (hs : s < 4) (hp : p < 7) (hr : r ≤ 4) (hD : ∀ i, i < r → HD νt st s p i) (hP : ∀ i, i < r → PA μ v νt s p fit bo sa i) : ∀ (m k fu : Nat) (ν : gs_M), k + m = r → m < fu → TM νt ν → ν.1 89 76 = nI r → (∀ i, i < k → HC μ ν (v + 2 + 2 * i) i (dC νt s i) (dO νt p i)) → (∀ i j, k ≤ i → i < 4 → 7 * i ≤ j → j < 7 * i + 7 → ν.1 89 j = 0) → (∀ i j, k ≤ i → i < 4 → j < 12 → ν.1 89 (28 + 12 * i + j) = 0) → ∃ ν', L_X12_loads_54 fu (nI s) (nI p) fit bo sa (nI k) ν = some ν' ∧ (∀ i, i < r → HC μ ν' (v + 2 + 2 * i) i (dC νt s i) (dO νt p i)) ∧ FS ν ν' ∧ ν'.1 83 = ν.1 83 := by
  intro m
  induction m with
  | zero =>
    intro k fu ν hk hf hT h76 hH hz1 hz2
    obtain ⟨fu, rfl⟩ : ∃ m, fu = m + 1 := ⟨fu - 1, by omega⟩
    obtain rfl : k = r := by omega
    refine ⟨ν, ?_, hH, FS.refl, rfl⟩
    show Bo_X12_loads_54 _ _ _ _ _ _ _ _ = _
    unfold Bo_X12_loads_54
    rw [mnw_76, bd_s, h76, if_pos (nI_le (by omega) (by omega))]
  | succ m ih =>
    intro k fu ν hk hf hT h76 hH hz1 hz2
    obtain ⟨fu, rfl⟩ : ∃ m, fu = m + 1 := ⟨fu - 1, by omega⟩
    have hk4 : k < 4 := by omega
    obtain ⟨t83, t84, t85, t86⟩ := hT
    obtain ⟨x1, x2, x3, x4, c2, c12, h40, ho, hF, ht, hb, hsa⟩ := hD k (by omega)
    obtain ⟨B, hB⟩ : ∃ B, B = if nI k = fit then bo else dB νt p k := ⟨_, rfl⟩
    obtain ⟨S, hS⟩ : ∃ S, S = if nI k = fit then sa else dS νt p k := ⟨_, rfl⟩
    have hPk := hP k (by omega)
    unfold PA at hPk
    rw [← hB, ← hS] at hPk
    have ix : ∀ j, j < 7 → (7 : Int32) * nI k + nI j = nI (7 * k + j) := fun j _ => by rw [show (7 : Int32) = nI 7 from rfl, pk_mul, nI_add]
    have i0 : (7 : Int32) * nI k + 0 = nI (7 * k) := by have := ix 0 (by decide); rw [show nI 0 = (0 : Int32) from rfl, Nat.add_zero] at this; exact this
    have i1 : (7 : Int32) * nI k + 1 = nI (7 * k + 1) := ix 1 (by decide)
    have i2 : (7 : Int32) * nI k + 2 = nI (7 * k + 2) := ix 2 (by decide)
    have i3 : (7 : Int32) * nI k + 3 = nI (7 * k + 3) := ix 3 (by decide)
    have i4 : (7 : Int32) * nI k + 4 = nI (7 * k + 4) := ix 4 (by decide)
    have q0 : ∀ u : gs_M, TM νt u → D_X12_holdOf (nI s) (nI k) 0 u = some (nI (dC νt s k), u) := fun u hu => by
      have := hOf (ν := u) hs hk4 (show 0 < 5 by decide)
      rw [show nI 0 = (0 : Int32) from rfl, Nat.add_zero, hu.2.1, x1] at this
      exact this
    have q1 : ∀ u : gs_M, TM νt u → D_X12_holdOf (nI s) (nI k) 1 u = some (nI (dH νt s k), u) := fun u hu => by
      have := hOf (ν := u) hs hk4 (show 1 < 5 by decide)
      rw [show nI 1 = (1 : Int32) from rfl, hu.2.1, x2] at this
      exact this
    have l0 : ∀ u : gs_M, TM νt u → D_X12_layingOf (nI p) (nI k) 0 u = some (nI (dO νt p k), u) := fun u hu => by
      have := lOf (ν := u) hp hk4 (show 0 < 5 by decide)
      rw [show nI 0 = (0 : Int32) from rfl, Nat.add_zero, hu.2.2.1, x3] at this
      exact this
    have l1 : ∀ u : gs_M, TM νt u → D_X12_layingOf (nI p) (nI k) 1 u = some (nI (dF νt p k), u) := fun u hu => by
      have := lOf (ν := u) hp hk4 (show 1 < 5 by decide)
      rw [show nI 1 = (1 : Int32) from rfl, hu.2.2.1, x4] at this
      exact this
    have l2 : ∀ u : gs_M, TM νt u → D_X12_layingOf (nI p) (nI k) 2 u = some (dT νt p k, u) := fun u hu => by
      have := lOf (ν := u) hp hk4 (show 2 < 5 by decide)
      rw [show nI 2 = (2 : Int32) from rfl, hu.2.2.1] at this
      exact this
    have l3 : ∀ u : gs_M, TM νt u → D_X12_layingOf (nI p) (nI k) 3 u = some (dB νt p k, u) := fun u hu => by
      have := lOf (ν := u) hp hk4 (show 3 < 5 by decide)
      rw [show nI 3 = (3 : Int32) from rfl, hu.2.2.1] at this
      exact this
    have l4 : ∀ u : gs_M, TM νt u → D_X12_layingOf (nI p) (nI k) 4 u = some (dS νt p k, u) := fun u hu => by
      have := lOf (ν := u) hp hk4 (show 4 < 5 by decide)
      rw [show nI 4 = (4 : Int32) from rfl, hu.2.2.1] at this
      exact this
    have Ts : ∀ (u : gs_M) (j : Nat) (x : Int32), TM νt u → TM νt (sI u 89 j x) := fun u j x hu => ⟨by rw [sI_n _ _ _ (by decide)]; exact hu.1, by rw [sI_n _ _ _ (by decide)]; exact hu.2.1, by rw [sI_n _ _ _ (by decide)]; exact hu.2.2.1, by rw [sI_n _ _ _ (by decide)]; exact hu.2.2.2⟩
    have T0 : TM νt ν := ⟨t83, t84, t85, t86⟩
    obtain ⟨u5, hu5⟩ : ∃ u5, u5 = sI (sI (sI (sI (sI ν 89 (7 * k) (nI (dC νt s k))) 89 (7 * k + 1) (nI (dH νt s k))) 89 (7 * k + 2) (nI (dO νt p k))) 89 (7 * k + 3) B) 89 (7 * k + 4) S := ⟨_, rfl⟩
    have e89 : u5.1 89 = upd (upd (upd (upd (upd (ν.1 89) (7 * k) (nI (dC νt s k))) (7 * k + 1) (nI (dH νt s k))) (7 * k + 2) (nI (dO νt p k))) (7 * k + 3) B) (7 * k + 4) S := by rw [hu5, sI_s, sI_s, sI_s, sI_s, sI_s]
    have eb : ∀ b, b ≠ 89 → u5.1 b = ν.1 b := fun b h => by rw [hu5, sI_n _ _ _ h, sI_n _ _ _ h, sI_n _ _ _ h, sI_n _ _ _ h, sI_n _ _ _ h]
    have e2 : u5.2 = ν.2 := by rw [hu5]; rfl
    have hRP : RP (u5.1 89) k (dC νt s k) (dH νt s k) (dO νt p k) B S := by
      rw [e89]
      unfold RP
      refine ⟨?_, ?_, ?_, ?_, ?_, ?_, ?_, fun i hi => ?_⟩
      · rw [pk_un (by omega), pk_un (by omega), pk_un (by omega), pk_un (by omega), pk_us]
      · rw [pk_un (by omega), pk_un (by omega), pk_un (by omega), pk_us]
      · rw [pk_un (by omega), pk_un (by omega), pk_us]
      · rw [pk_un (by omega), pk_us]
      · rw [pk_us]
      · rw [pk_un (by omega), pk_un (by omega), pk_un (by omega), pk_un (by omega), pk_un (by omega)]; exact hz1 k _ (by omega) hk4 (by omega) (by omega)
      · rw [pk_un (by omega), pk_un (by omega), pk_un (by omega), pk_un (by omega), pk_un (by omega)]; exact hz1 k _ (by omega) hk4 (by omega) (by omega)
      · rw [pk_un (by omega), pk_un (by omega), pk_un (by omega), pk_un (by omega), pk_un (by omega)]; exact hz2 k i (by omega) hk4 hi
    obtain ⟨ν6, w1, w2, w3⟩ := hPk.2 u5 (by rw [eb 83 (by decide)]; exact t83) hRP
    have out : ∀ j, ¬ (7 * k ≤ j ∧ j < 7 * k + 7) → (j < 28 + 12 * k ∨ 40 + 12 * k ≤ j) → ν6.1 89 j = ν.1 89 j := fun j h1 h2 => by
      rw [w3.2.2.1 j h2, e89, pk_un (by omega), pk_un (by omega), pk_un (by omega), pk_un (by omega), pk_un (by omega)]
    have o83 : ν6.1 83 = ν.1 83 := by rw [w3.1 83 (by decide) (by decide), eb 83 (by decide)]
    have T6 : TM νt ν6 := ⟨by rw [o83]; exact t83, by rw [w3.1 84 (by decide) (by decide), eb 84 (by decide)]; exact t84, by rw [w3.1 85 (by decide) (by decide), eb 85 (by decide)]; exact t85, by rw [w3.1 86 (by decide) (by decide), eb 86 (by decide)]; exact t86⟩
    obtain ⟨ν', v1, v2, v3, v4⟩ := ih (k + 1) fu ν6 (by omega) (by omega) T6 (by rw [out 76 (by omega) (by omega)]; exact h76) (fun i hi => by
      by_cases q : i = k
      · subst q; exact w2
      · exact (hH i (by omega)).row (by omega) o83 (fun j h1 h2 => out j (by omega) (by omega)) (fun j hj => out _ (by omega) (by omega))) (fun i j h1 h2 h3 h4 => by rw [out j (by omega) (by omega)]; exact hz1 i j (by omega) h2 h3 h4) (fun i j h1 h2 h3 => by rw [out _ (by omega) (by omega)]; exact hz2 i j (by omega) h2 h3)
    refine ⟨ν', ?_, v2, FS.trans ⟨fun b h1 h2 => by rw [w3.1 b h1 h2, eb b h2], fun j h1 h2 => by rw [w3.2.1 j h1 h2, eb 78 (by decide)], fun j hj => out j (by omega) (by omega), w3.2.2.2.trans e2⟩ v3, v4.trans o83⟩
    refine Eq.trans ?_ v1
    show Bo_X12_loads_54 _ _ _ _ _ _ _ _ = _
    unfold Bo_X12_loads_54 B_X12_loads_155 B_X12_loads_186 B_X12_loads_215
    rw [mnw_76, bd_s, h76, if_neg (nI_ge (show k < r by omega) (by omega)), q0 _ T0, bd_s, i0, inb_n (show 7 * k < 81 by omega) (by decide), ck_t, nI_clamp (by omega), lt1]
    have T1 := Ts ν (7 * k) (nI (dC νt s k)) T0
    rw [q1 _ T1, bd_s, i1, inb_n (show 7 * k + 1 < 81 by omega) (by decide), ck_t, nI_clamp (by omega), lt1]
    have T2 := Ts _ (7 * k + 1) (nI (dH νt s k)) T1
    rw [l0 _ T2, bd_s, i2, inb_n (show 7 * k + 2 < 81 by omega) (by decide), ck_t, nI_clamp (by omega), lt1, i3, inb_n (show 7 * k + 3 < 81 by omega) (by decide), i4, inb_n (show 7 * k + 4 < 81 by omega) (by decide), nI_clamp (show 7 * k + 3 < 2 ^ 31 by omega), nI_clamp (show 7 * k + 4 < 2 ^ 31 by omega), nI_1]
    have T3 := Ts _ (7 * k + 2) (nI (dO νt p k)) T2
    have body : ∀ u, u = u5 → (bd (D_X12_layingOf (nI p) (nI k) (1 : Int32) u) (fun v5 u4 => bd (D_X12_layingOf (nI p) (nI k) (2 : Int32) u4) (fun v8 u7 => if v8 = (1 : Int32) then bd0 (D_X12_pours (nI k) v5 (1 : Int32) u7) (fun u2 => L_X12_loads_54 fu (nI s) (nI p) fit bo sa (nI (k + 1)) u2) else bd0 (D_X12_pours (nI k) v5 (0 : Int32) u7) (fun u2 => L_X12_loads_54 fu (nI s) (nI p) fit bo sa (nI (k + 1)) u2)))) = L_X12_loads_54 fu (nI s) (nI p) fit bo sa (nI (k + 1)) ν6 := by
      rintro u rfl
      have T5 : TM νt u := ⟨by rw [eb 83 (by decide)]; exact t83, by rw [eb 84 (by decide)]; exact t84, by rw [eb 85 (by decide)]; exact t85, by rw [eb 86 (by decide)]; exact t86⟩
      rw [l1 u T5, bd_s, l2 u T5, bd_s]
      rcases ht with z | z
      · rw [z] at w1
        rw [if_neg (by rw [z]; decide), w1, bd0_s]
      · rw [z] at w1
        rw [if_pos z, w1, bd0_s]
    by_cases z : nI k = fit
    · rw [if_pos z] at hB hS
      subst hB hS
      simp only [if_pos z, ck_t, lt1]
      exact body _ hu5.symm
    · rw [if_neg z] at hB hS
      simp only [if_neg z, ck_t, lt1]
      rw [l3 _ T3, bd_s, l4 _ (Ts _ _ _ T3), bd_s]
      exact body _ (by rw [hu5, hB, hS])
