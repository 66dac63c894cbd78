/-! reach -/
def bt (k : Nat) : Int32 := (1 : Int32) <<< (nI k &&& 31)
def orB (P : Nat → Bool) : Nat → Int32
  | 0 => 0
  | k + 1 => if P k = true then orB P k ||| bt k else orB P k
theorem orB_c {P Q : Nat → Bool} : ∀ {N : Nat}, (∀ j, j < N → P j = Q j) → orB P N = orB Q N
  | 0, _ => rfl
  | N + 1, h => by
    show (if P N = true then orB P N ||| bt N else orB P N) = (if Q N = true then orB Q N ||| bt N else orB Q N)
    rw [orB_c (fun j hj => h j (by omega)), h N (by omega)]
theorem orB_a {P Q : Nat → Bool} {k : Nat} : ∀ {N : Nat}, k < N → Q k = true → (∀ j, j ≠ k → Q j = P j) → orB Q N = orB P N ||| bt k
  | 0, h, _, _ => absurd h (by omega)
  | N + 1, hk, hq, h => by
    show (if Q N = true then orB Q N ||| bt N else orB Q N) = (if P N = true then orB P N ||| bt N else orB P N) ||| bt k
    by_cases e : k = N
    · subst e
      rw [if_pos hq, orB_c (fun j hj => h j (by omega))]
      by_cases z : P k = true
      · rw [if_pos z, Int32.or_assoc, Int32.or_self]
      · rw [if_neg z]
    · rw [orB_a (show k < N by omega) hq h, h N (fun q => e q.symm)]
      by_cases z : P N = true
      · rw [if_pos z, if_pos z, Int32.or_assoc, Int32.or_comm (bt k), Int32.or_assoc]
      · rw [if_neg z, if_neg z]
theorem or_bit {P : Nat → Bool} {N k : Nat} (hN : N ≤ 6) (hk : k < N) : ((orB P N >>> (nI k &&& 31)) &&& 1 = 1) ↔ P k = true := by
  have H : ∀ b0 b1 b2 b3 b4 b5 : Bool, ∀ N, N ≤ 6 → ∀ k, k < N → (((orB (fun k => [b0, b1, b2, b3, b4, b5].getD k false) N >>> (nI k &&& 31)) &&& 1 = 1) ↔ [b0, b1, b2, b3, b4, b5].getD k false = true) := by decide +kernel
  have e : ∀ j, j < 6 → P j = [P 0, P 1, P 2, P 3, P 4, P 5].getD j false := fun j hj => by
    obtain rfl | rfl | rfl | rfl | rfl | rfl : j = 0 ∨ j = 1 ∨ j = 2 ∨ j = 3 ∨ j = 4 ∨ j = 5 := by omega
    all_goals rfl
  rw [orB_c (Q := fun k => [P 0, P 1, P 2, P 3, P 4, P 5].getD k false) (fun j hj => e j (by omega)), e k (by omega)]
  exact H _ _ _ _ _ _ N hN k hk
/-- the class's days, one by one -/
def itS (sea : Int32) : Nat → gs_M → Option gs_M
  | 0, μ => some μ
  | j + 1, μ => bd0 (itS sea j μ) (fun u => D_X10_sail 56 sea 1 u)
theorem voy_s {sea : Int32} {D : Nat} (hD : D < 1000) : ∀ (m k fu : Nat) (ν ν' : gs_M), k + m = D → m + 1 < fu → L_X12_voyage_2 fu sea (nI D) (nI k) ν = some ν' → L_X12_voyage_2 fu sea (nI (D + 1)) (nI k) ν = if ν'.1 89 79 = 0 then D_X12_days sea ν' else some ν' := by
  intro m
  induction m with
  | zero =>
    intro k fu ν ν' hk hf h
    obtain ⟨fu, rfl⟩ : ∃ m, fu = m + 1 + 1 := ⟨fu - 2, by omega⟩
    obtain rfl : k = D := by omega
    have e : L_X12_voyage_2 (fu + 1 + 1) sea (nI k) (nI k) ν = some ν := by
      show Bo_X12_voyage_2 _ _ _ _ _ = _
      unfold Bo_X12_voyage_2
      rw [if_pos (nI_le (Nat.le_refl _) (by omega))]
    rw [e] at h
    cases h
    show Bo_X12_voyage_2 _ _ _ _ _ = _
    unfold Bo_X12_voyage_2
    rw [if_neg (nI_ge (show k < k + 1 by omega) (by omega)), mnw_79, bd_s]
    by_cases z : ν.1 89 79 = 0
    · rw [if_pos z, if_pos z]
      have e2 : ∀ u, L_X12_voyage_2 (fu + 1) sea (nI (k + 1)) (nI k + 1) u = some u := fun u => by
        show Bo_X12_voyage_2 _ _ _ _ _ = _
        unfold Bo_X12_voyage_2
        rw [nI_1, if_pos (nI_le (Nat.le_refl _) (by omega))]
      cases hd : D_X12_days sea ν with
      | none => rfl
      | some u => rw [bd0_s]; exact e2 u
    · rw [if_neg z, if_neg z]
  | succ m ih =>
    intro k fu ν ν' hk hf h
    obtain ⟨fu, rfl⟩ : ∃ m, fu = m + 1 := ⟨fu - 1, by omega⟩
    have h' : Bo_X12_voyage_2 (L_X12_voyage_2 fu) sea (nI D) (nI k) ν = some ν' := h
    unfold Bo_X12_voyage_2 at h'
    rw [if_neg (nI_ge (show k < D by omega) (by omega)), mnw_79, bd_s] at h'
    show Bo_X12_voyage_2 _ _ _ _ _ = _
    unfold Bo_X12_voyage_2
    rw [if_neg (nI_ge (show k < D + 1 by omega) (by omega)), mnw_79, bd_s]
    by_cases z : ν.1 89 79 = 0
    · rw [if_pos z] at h' ⊢
      obtain ⟨u, hu, h2⟩ := bd0_e h'
      rw [hu, bd0_s]
      rw [nI_1] at h2 ⊢
      exact ih (k + 1) fu u ν' (by omega) (by omega) h2
    · rw [if_neg z] at h' ⊢
      cases h'
      rw [if_neg z]
theorem it_e {st n : Nat} {sea : Int32} (hsea : 0 ≤ sea.toInt ∧ sea.toInt ≤ 30) {μ ν : gs_M} {B : Nat} (hB : B < 100000) (hV : VR μ 56 (ν.1 89) (ν.1 83) (ν.2 78 33) st n B) (hS : SS μ ν) : ∀ d, d ≤ 9 → ∃ μ' ν', itS sea d μ = some μ' ∧ D_X12_voyage sea (nI d) ν = some ν' ∧ VR μ' 56 (ν'.1 89) (ν'.1 83) (ν'.2 78 33) st n (B + 160 * d) ∧ FW 56 μ μ' ∧ FR ν ν' := by
  intro d
  induction d with
  | zero =>
    intro _
    refine ⟨μ, ν, rfl, ?_, hV, FW.refl, FR.refl⟩
    obtain ⟨f, hf⟩ : ∃ f, 4096 = f + 1 := ⟨4095, rfl⟩
    unfold D_X12_voyage
    rw [hf]
    show Bo_X12_voyage_2 _ _ _ _ _ = _
    unfold Bo_X12_voyage_2
    exact if_pos (by decide)
  | succ d ih =>
    intro hd
    obtain ⟨μ1, ν1, s1, s2, s3, s4, s5⟩ := ih (by omega)
    have hS1 := hS.w (by decide) s4 s5
    have hvs : D_X12_voyage sea (nI (d + 1)) ν = if ν1.1 89 79 = 0 then D_X12_days sea ν1 else some ν1 := voy_s (show d < 1000 by omega) d 0 4096 ν ν1 (by omega) (by omega) s2
    by_cases z : ν1.1 89 79 = 0
    · obtain ⟨μ2, ν2, t1, t2, t3, t4, t5⟩ := day1_e (by decide) hsea (by omega) s3 hS1 z
      refine ⟨μ2, ν2, ?_, ?_, t3.mono (by omega) (Nat.le_refl _), s4.trans t4, s5.trans t5⟩
      · show bd0 (itS sea d μ) _ = _
        rw [s1, bd0_s]; exact t1
      · rw [hvs, if_pos z]; exact t2
    · refine ⟨μ1, ν1, ?_, ?_, s3.mono (by omega) (Nat.le_refl _), s4, s5⟩
      · show bd0 (itS sea d μ) _ = _
        rw [s1, bd0_s]
        exact day0_e (by rw [s3.2.2.2.1]; exact z)
      · rw [hvs, if_neg z]
/-- not lost after d days -/
def okD (sea : Int32) (μ : gs_M) (d : Nat) : Bool := match itS sea d μ with
  | some μ' => decide (μ'.1 56 4 = 0)
  | none => false
def Pd (sea : Int32) (μ : gs_M) (dj : Nat → Nat) (d k : Nat) (j : Nat) : Bool := decide (dj j < d ∨ (dj j = d ∧ j < k)) && okD sea μ (dj j)
theorem pin_loop {μ0 μ : gs_M} {sea : Int32} {dj : Nat → Nat} {N d : Nat} {q15 : Int32 → Int32 → Int32 → gs_M → Option (Int32 × gs_M)} (hN : N ≤ 6) (hd9 : d ≤ 9) (h1 : itS sea d μ0 = some μ) (c1 : μ.1 69 2 = nI N) (c2 : ∀ k, k < N → dj k ≤ 9 ∧ μ.1 70 k = nI (dj k)) : ∀ (m k fu : Nat), k + m = N → m < fu → L_X11_portsReached_33 q15 fu sea (orB (Pd sea μ0 dj d k) N) (nI d) (nI k) μ = q15 sea (orB (Pd sea μ0 dj (d + 1) 0) N) (nI (d + 1)) μ := by
  have hok : okD sea μ0 d = decide (μ.1 56 4 = 0) := by unfold okD; rw [h1]
  intro m
  induction m with
  | zero =>
    intro k fu hk hf
    obtain ⟨fu, rfl⟩ : ∃ m, fu = m + 1 := ⟨fu - 1, by omega⟩
    show Bo_X11_portsReached_33 _ _ _ _ _ _ _ = _
    unfold Bo_X11_portsReached_33
    rw [gI_d, c1, if_pos (nI_le (by omega) (by omega)), nI_1, orB_c (Q := Pd sea μ0 dj (d + 1) 0) (fun j hj => by
      unfold Pd
      congr 1
      apply decide_eq_decide.mpr
      omega)]
  | succ m ih =>
    intro k fu hk hf
    obtain ⟨fu, rfl⟩ : ∃ m, fu = m + 1 := ⟨fu - 1, by omega⟩
    obtain ⟨q1, q2⟩ := c2 k (by omega)
    rw [← ih (k + 1) fu (by omega) (by omega)]
    have same : ∀ x, (∀ j, j < N → Pd sea μ0 dj d (k + 1) j = Pd sea μ0 dj d k j) → L_X11_portsReached_33 q15 fu sea (orB (Pd sea μ0 dj d k) N) x (nI (k + 1)) μ = L_X11_portsReached_33 q15 fu sea (orB (Pd sea μ0 dj d (k + 1)) N) x (nI (k + 1)) μ := fun x h => by rw [orB_c h]
    show Bo_X11_portsReached_33 _ _ _ _ _ _ _ = _
    unfold Bo_X11_portsReached_33
    rw [gI_d, c1, if_neg (nI_ge (show k < N by omega) (by omega)), gI_d, gI_d, inb_n (show k < 6 by omega) (by decide), ck_t, nI_clamp (by omega), show (69 + 1 : Nat) = 70 from rfl, q2, lt1, nI_1]
    by_cases z : μ.1 56 4 = 0
    · rw [if_pos z]
      have ho : okD sea μ0 d = true := by rw [hok]; exact decide_eq_true z
      by_cases z2 : dj k = d
      · rw [if_pos (by rw [z2]), orB_a (P := Pd sea μ0 dj d k) (Q := Pd sea μ0 dj d (k + 1)) (show k < N by omega) (by
          unfold Pd
          rw [z2, ho, Bool.and_true]
          exact decide_eq_true (by omega)) (fun j hj => by
          unfold Pd
          congr 1
          apply decide_eq_decide.mpr
          omega)]
        rfl
      · rw [if_neg (fun q => z2 ((nI_eq (by omega) (by omega)).mp q))]
        refine same _ (fun j hj => ?_)
        unfold Pd
        congr 1
        apply decide_eq_decide.mpr
        by_cases e : j = k
        · subst e; omega
        · omega
    · rw [if_neg z]
      have ho : okD sea μ0 d = false := by rw [hok]; exact decide_eq_false z
      refine same _ (fun j hj => ?_)
      unfold Pd
      by_cases e : dj j = d
      · rw [e, ho, Bool.and_false, Bool.and_false]
      · congr 1
        apply decide_eq_decide.mpr
        omega
theorem pr_loop {μ0 : gs_M} {sea : Int32} {dj : Nat → Nat} {N : Nat} (hN : N ≤ 6) (hit : ∀ d, d ≤ 9 → ∃ μ', itS sea d μ0 = some μ' ∧ μ'.1 69 2 = nI N ∧ ∀ k, k < N → dj k ≤ 9 ∧ μ'.1 70 k = nI (dj k)) : ∀ (m d fu : Nat) (μ : gs_M), d + m = 9 → m < fu → itS sea d μ0 = some μ → ∃ μ', L_X11_portsReached_15 fu sea (orB (Pd sea μ0 dj (d + 1) 0) N) (nI (d + 1)) μ = some (orB (Pd sea μ0 dj 10 0) N, μ') ∧ itS sea 9 μ0 = some μ' := by
  intro m
  induction m with
  | zero =>
    intro d fu μ hd hf h
    obtain ⟨fu, rfl⟩ : ∃ m, fu = m + 1 := ⟨fu - 1, by omega⟩
    obtain rfl : d = 9 := by omega
    refine ⟨μ, ?_, h⟩
    show Bo_X11_portsReached_15 _ _ _ _ _ = _
    unfold Bo_X11_portsReached_15
    rw [if_pos (show (9 : Int32) < nI (9 + 1) by rw [show (9 : Int32) = nI 9 from rfl]; exact nI_lt (by omega) (by omega))]
  | succ m ih =>
    intro d fu μ hd hf h
    obtain ⟨fu, rfl⟩ : ∃ m, fu = m + 1 := ⟨fu - 1, by omega⟩
    obtain ⟨μ1, s1, s2, s3⟩ := hit (d + 1) (by omega)
    have s1' : bd0 (itS sea d μ0) (fun u => D_X10_sail 56 sea 1 u) = some μ1 := s1
    rw [h, bd0_s] at s1'
    obtain ⟨μ', u1, u2⟩ := ih (d + 1) fu μ1 (by omega) (by omega) s1
    refine ⟨μ', ?_, u2⟩
    show Bo_X11_portsReached_15 _ _ _ _ _ = _
    unfold Bo_X11_portsReached_15
    rw [if_neg (show ¬ (9 : Int32) < nI (d + 1) by rw [show (9 : Int32) = nI 9 from rfl]; exact nI_nlt (by omega) (by omega)), s1', bd0_s]
    refine (pin_loop (q15 := L_X11_portsReached_15 fu) hN (by omega) s1 s2 s3 N 0 4096 (by omega) (by omega)).trans ?_
    exact u1
def bsN (ok : Nat → Bool) (wo : Nat → Int32) : Nat → Int32
  | 0 => -1
  | k + 1 => if ok k = true then (if bsN ok wo k = -1 then nI k else if wo k ≤ wo (bsN ok wo k).toNatClampNeg then bsN ok wo k else nI k) else bsN ok wo k
theorem bsN_r {ok : Nat → Bool} {wo : Nat → Int32} : ∀ k, bsN ok wo k = -1 ∨ ∃ b, b < k ∧ bsN ok wo k = nI b
  | 0 => Or.inl rfl
  | k + 1 => by
    show (if ok k = true then (if bsN ok wo k = -1 then nI k else if wo k ≤ wo (bsN ok wo k).toNatClampNeg then bsN ok wo k else nI k) else bsN ok wo k) = -1 ∨ ∃ b, b < k + 1 ∧ (if ok k = true then (if bsN ok wo k = -1 then nI k else if wo k ≤ wo (bsN ok wo k).toNatClampNeg then bsN ok wo k else nI k) else bsN ok wo k) = nI b
    have ih := bsN_r (ok := ok) (wo := wo) k
    have ih' : bsN ok wo k = -1 ∨ ∃ b, b < k + 1 ∧ bsN ok wo k = nI b := ih.imp id (fun ⟨b, h1, h2⟩ => ⟨b, by omega, h2⟩)
    by_cases z : ok k = true
    · rw [if_pos z]
      by_cases z2 : bsN ok wo k = -1
      · rw [if_pos z2]; exact Or.inr ⟨k, by omega, rfl⟩
      · rw [if_neg z2]
        by_cases z3 : wo k ≤ wo (bsN ok wo k).toNatClampNeg
        · rw [if_pos z3]; exact ih'
        · rw [if_neg z3]; exact Or.inr ⟨k, by omega, rfl⟩
    · rw [if_neg z]; exact ih'
theorem nI_nm1 {b : Nat} (h : b < 2 ^ 31) : ¬ nI b = -1 := fun q => by
  have e : (nI b).toInt = (-1 : Int32).toInt := by rw [q]
  rw [nI_toInt h, show (-1 : Int32).toInt = -1 by decide] at e
  omega
theorem wor_loop {μ : gs_M} {N : Nat} {ok : Nat → Bool} {wo : Nat → Int32} (hN : N ≤ 6) (c1 : μ.1 69 2 = nI N) (c2 : ∀ k, k < N → μ.1 71 k = wo k ∧ 0 ≤ (wo k).toInt) : ∀ (m k fu : Nat), k + m = N → m < fu → L_X11_worthiestOf_7 fu (orB ok N) (bsN ok wo k) (if bsN ok wo k = -1 then -1 else wo (bsN ok wo k).toNatClampNeg) (nI k) μ = some (bsN ok wo N, μ) := by
  intro m
  induction m with
  | zero =>
    intro k fu hk hf
    obtain ⟨fu, rfl⟩ : ∃ m, fu = m + 1 := ⟨fu - 1, by omega⟩
    obtain rfl : k = N := by omega
    show Bo_X11_worthiestOf_7 _ _ _ _ _ _ = _
    unfold Bo_X11_worthiestOf_7
    rw [gI_d, c1, if_pos (nI_le (Nat.le_refl _) (by omega))]
  | succ m ih =>
    intro k fu hk hf
    obtain ⟨fu, rfl⟩ : ∃ m, fu = m + 1 := ⟨fu - 1, by omega⟩
    obtain ⟨w1, w2⟩ := c2 k (by omega)
    rw [← ih (k + 1) fu (by omega) (by omega)]
    show Bo_X11_worthiestOf_7 _ _ _ _ _ _ = _
    unfold Bo_X11_worthiestOf_7
    rw [gI_d, c1, if_neg (nI_ge (show k < N by omega) (by omega)), gI_d, inb_n (show k < 6 by omega) (by decide), ck_t, ck_t, nI_clamp (by omega), show (69 + 2 : Nat) = 71 from rfl, w1, lt1, nI_1]
    have eN : bsN ok wo (k + 1) = (if ok k = true then (if bsN ok wo k = -1 then nI k else if wo k ≤ wo (bsN ok wo k).toNatClampNeg then bsN ok wo k else nI k) else bsN ok wo k) := rfl
    have ek : (nI k).toNatClampNeg = k := nI_clamp (by omega)
    by_cases z : ok k = true
    · rw [if_pos ((or_bit hN (show k < N by omega)).mpr z)]
      rw [if_pos z] at eN
      by_cases z2 : bsN ok wo k = -1
      · rw [if_pos z2] at eN ⊢
        rw [if_neg (show ¬ wo k ≤ -1 by rw [ti_le, show (-1 : Int32).toInt = -1 by decide]; omega), eN, if_neg (nI_nm1 (by omega)), ek]
      · rw [if_neg z2] at eN ⊢
        by_cases z3 : wo k ≤ wo (bsN ok wo k).toNatClampNeg
        · rw [if_pos z3] at eN ⊢
          rw [eN, if_neg z2]
        · rw [if_neg z3] at eN ⊢
          rw [eN, if_neg (nI_nm1 (by omega)), ek]
    · rw [if_neg (fun q => z ((or_bit hN (show k < N by omega)).mp q))]
      rw [if_neg z] at eN
      rw [eN]
theorem mre_loop {ν : gs_M} {N : Nat} {ok : Nat → Bool} {wo : Nat → Int32} {sea what : Int32} (hN : N ≤ 6) (c1 : ν.1 78 48 = nI N) (c2 : ∀ k, k < N → ν.1 97 k = wo k) (hr : ∀ p ν', p < N → BK ν ν' → ∃ ν'', D_X12_isReached sea (nI p) ν' = some (if ok p = true then 1 else 0, ν'') ∧ BK ν ν'') : ∀ (m k fu : Nat) (ν' : gs_M), k + m = N → m < fu → BK ν ν' → ∃ ν'', L_X12_reach_43 fu sea what (orB ok k) (bsN ok wo k) (nI k) ν' = some (if what = 0 then orB ok N else bsN ok wo N, ν'') ∧ BK ν ν'' := by
  intro m
  induction m with
  | zero =>
    intro k fu ν' hk hf hb
    obtain ⟨fu, rfl⟩ : ∃ m, fu = m + 1 := ⟨fu - 1, by omega⟩
    obtain rfl : k = N := by omega
    refine ⟨ν', ?_, hb⟩
    show Bo_X12_reach_43 _ _ _ _ _ _ _ = _
    unfold Bo_X12_reach_43
    rw [gI_d, hb.2.1 48 (by decide) (by decide), c1, if_pos (nI_le (Nat.le_refl _) (by omega))]
    by_cases z : what = 0
    · rw [if_pos z, if_pos z]
    · rw [if_neg z, if_neg z]
  | succ m ih =>
    intro k fu ν' hk hf hb
    obtain ⟨fu, rfl⟩ : ∃ m, fu = m + 1 := ⟨fu - 1, by omega⟩
    obtain ⟨ν1, s1, s2⟩ := hr k ν' (by omega) hb
    obtain ⟨ν2, u1, u2⟩ := ih (k + 1) fu ν1 (by omega) (by omega) s2
    refine ⟨ν2, ?_, u2⟩
    refine Eq.trans ?_ u1
    show Bo_X12_reach_43 _ _ _ _ _ _ _ = _
    unfold Bo_X12_reach_43 B_X12_reach_95
    rw [gI_d, hb.2.1 48 (by decide) (by decide), c1, if_neg (nI_ge (show k < N by omega) (by omega)), s1, bd_s, lt1, nI_1]
    have eN : bsN ok wo (k + 1) = (if ok k = true then (if bsN ok wo k = -1 then nI k else if wo k ≤ wo (bsN ok wo k).toNatClampNeg then bsN ok wo k else nI k) else bsN ok wo k) := rfl
    have eB : orB ok (k + 1) = if ok k = true then orB ok k ||| bt k else orB ok k := rfl
    by_cases z : ok k = true
    · rw [if_pos z] at eN eB ⊢
      rw [if_neg z10, eB]
      by_cases z2 : bsN ok wo k = -1
      · rw [if_pos z2] at eN ⊢
        rw [eN]; rfl
      · rw [if_neg z2] at eN ⊢
        obtain ⟨b, hb1, hb2⟩ := (bsN_r (ok := ok) (wo := wo) k).resolve_left z2
        rw [hb2] at eN ⊢
        rw [nI_clamp (show b < 2 ^ 31 by omega)] at eN
        rw [inb_n (show k < 6 by omega) (by decide), inb_n (show b < 6 by omega) (by decide), ck_t, ck_t, nI_clamp (show k < 2 ^ 31 by omega), nI_clamp (show b < 2 ^ 31 by omega), gI_d, gI_d, s2.1 97 (by decide) (by decide) (by decide), c2 k (by omega), c2 b (by omega)]
        by_cases z3 : wo k ≤ wo b
        · rw [if_pos z3] at eN ⊢
          rw [eN]; rfl
        · rw [if_neg z3] at eN ⊢
          rw [eN]; rfl
    · rw [if_neg z] at eN eB ⊢
      rw [if_pos rfl, eN, eB]
theorem k_reach {i : Nat} (hi : i ≤ 4096) (y0 y1 : Int32) : CALLS i (D_X11_reach y0 y1) (D_X12_reach y0 y1) := by
  intro μ ν0 h0
  obtain ⟨ν, hν, h, he⟩ := th_e h0
  obtain ⟨st, hU, hL, hI, hQ, hgo⟩ := rt_live h
  have hS := hQ.1
  unfold D_X11_reach D_X12_reach 
  simp only [lt1, ← hν, wi_e, ii_e, bd_s]
  rcases rdy_e hL with ⟨rc, rm⟩ | ⟨rc, rm, n, hV, hz⟩
  · exact fin_e (r := -1000000) h he (by simp only [rc, bd_s, if_true]) (by simp only [rm, bd_s, if_true])
  rcases inN_k y0 (lo := 0) (hi := 30) (L := 0) (H := 30) (by decide) (by decide) with z0 | ⟨z0, a0, b0⟩
  · exact fin_e (r := -1000000) h he (by simp only [rc, bd_s, if_neg z10, z0, if_true]) (by simp only [rm, bd_s, if_neg z10, z0, if_true])
  rcases inN_k y1 (lo := 0) (hi := 1) (L := 0) (H := 1) (by decide) (by decide) with z1 | ⟨z1, a1, b1⟩
  · exact fin_e (r := -1000000) h he (by simp only [rc, bd_s, if_neg z10, z0, z1, if_true]) (by simp only [rm, bd_s, if_neg z10, z0, z1, if_true])
  simp only [rc, rm, bd_s, if_neg z10, z0, z1]
  have h' := h
  obtain ⟨-, -, -, -, -, -, ⟨N, c0, c1, c2, c3⟩, -⟩ := h'
  obtain ⟨dj, hdj⟩ : ∃ dj : Nat → Nat, ∀ k, k < N → 1 ≤ dj k ∧ dj k ≤ 9 ∧ μ.1 70 k = nI (dj k) ∧ ν.1 96 k = nI (dj k) := by
    refine ⟨fun k => (ν.1 96 k).toNatClampNeg, fun k hk => ?_⟩
    obtain ⟨⟨d, d1, d2, d3, d4⟩, -⟩ := c3 k hk
    have e : (ν.1 96 k).toNatClampNeg = d := by rw [d4, nI_clamp (by omega)]
    show 1 ≤ (ν.1 96 k).toNatClampNeg ∧ (ν.1 96 k).toNatClampNeg ≤ 9 ∧ μ.1 70 k = nI (ν.1 96 k).toNatClampNeg ∧ ν.1 96 k = nI (ν.1 96 k).toNatClampNeg
    rw [e]
    exact ⟨d1, d2, d3, d4⟩
  obtain ⟨μ1, ν1, s1, s2, s3, s4, s5, s6, s7⟩ := tr_e (v := 56) (by decide) hV
  have ft1 := s4.ft (by decide) (by decide)
  have hS1 := hS.tk ft1 s5
  have hit : ∀ d, d ≤ 9 → ∃ μ', itS y0 d μ1 = some μ' ∧ FT μ1 μ' := fun d hd => by
    obtain ⟨μ', ν', t1, t2, t3, t4, t5⟩ := it_e ⟨a0, b0⟩ (show 20 * i < 100000 by omega) s3 hS1 d hd
    exact ⟨μ', t1, t4.ft (by decide) (by decide)⟩
  obtain ⟨μ9, p1, p2⟩ := pr_loop (μ0 := μ1) (sea := y0) (dj := dj) c0 (fun d hd => by
    obtain ⟨μ', t1, t2⟩ := hit d hd
    refine ⟨μ', t1, by rw [(t2 69 (by omega)).1, (ft1 69 (by omega)).1]; exact c1, fun k hk => ⟨(hdj k hk).2.1, ?_⟩⟩
    rw [(t2 70 (by omega)).1, (ft1 70 (by omega)).1]
    exact (hdj k hk).2.2.1) 9 0 4096 μ1 (by omega) (by omega) rfl
  have ft9 : FT μ μ9 := by
    obtain ⟨μ', t1, t2⟩ := hit 9 (by omega)
    rw [t1] at p2
    cases p2
    exact ft1.trans t2
  have e0 : orB (Pd y0 μ1 dj (0 + 1) 0) N = 0 := by
    have : ∀ M, M ≤ N → orB (Pd y0 μ1 dj (0 + 1) 0) M = 0 := by
      intro M
      induction M with
      | zero => intro _; rfl
      | succ M ih =>
        intro hM
        show (if Pd y0 μ1 dj (0 + 1) 0 M = true then _ else orB (Pd y0 μ1 dj (0 + 1) 0) M) = 0
        have hd := hdj M (by omega)
        have e : Pd y0 μ1 dj (0 + 1) 0 M = false := by
          unfold Pd
          rw [decide_eq_false (by omega), Bool.false_and]
        rw [e, if_neg (by decide)]
        exact ih (by omega)
    exact this N (Nat.le_refl _)
  rw [e0] at p1
  obtain ⟨ok, hok⟩ : ∃ ok : Nat → Bool, ok = fun k => okD y0 μ1 (dj k) := ⟨_, rfl⟩
  have e10 : orB (Pd y0 μ1 dj 10 0) N = orB ok N := orB_c (fun j hj => by
    have hd := hdj j hj
    unfold Pd
    rw [decide_eq_true (by omega), Bool.true_and, hok])
  rw [e10] at p1
  have hr : ∀ p ν', p < N → BK ν ν' → ∃ ν'', D_X12_isReached y0 (nI p) ν' = some (if ok p = true then 1 else 0, ν'') ∧ BK ν ν'' := by
    intro p ν' hp bk
    obtain ⟨μ1', ν1', s1', s2', s3', s4', s5', s6', s7'⟩ := tr_e (v := 56) (by decide) (hV.tb FT.refl bk)
    rw [s1] at s1'
    cases s1'
    obtain ⟨μ', ν'', t1, t2, t3, t4, t5⟩ := it_e ⟨a0, b0⟩ (show 20 * i < 100000 by omega) s3' ((hS.tb FT.refl bk).tk ft1 s5') (dj p) (hdj p hp).2.1
    obtain ⟨ν3, q1, q2⟩ := pb_e (s5'.r t5)
    refine ⟨ν3, ?_, bk.trans q2⟩
    unfold D_X12_isReached B_X12_isReached_29
    rw [s2', bd0_s, inb_n (show p < 6 by omega) (by decide), ck_t, nI_clamp (by omega), gI_d, s5'.1 96 (by decide) (by decide) (by decide), bk.1 96 (by decide) (by decide) (by decide), (hdj p hp).2.2.2, t2, bd0_s, mnw_79, bd_s, q1, bd0_s, bd0_s]
    have ho : ok p = decide (ν''.1 89 79 = 0) := by
      rw [hok]
      show okD y0 μ1 (dj p) = _
      unfold okD
      rw [t1]
      show decide (μ'.1 56 4 = 0) = _
      rw [t3.2.2.2.1]
    by_cases z : ν''.1 89 79 = 0
    · rw [if_pos z, ho, decide_eq_true z, if_pos rfl]; rfl
    · rw [if_neg z, ho, decide_eq_false z, if_neg (by decide)]; rfl
  obtain ⟨ν2, u1, u2⟩ := mre_loop (what := y1) (wo := fun k => ν.1 97 k) c0 c2 (fun _ _ => rfl) hr N 0 4096 ν (by omega) (by omega) BK.refl
  have hpr : D_X11_portsReached y0 μ = some (orB ok N, μ9) := by
    unfold D_X11_portsReached
    rw [s1, bd0_s]
    exact p1
  have hwo : D_X11_worthiestOf (orB ok N) μ9 = some (bsN ok (fun k => ν.1 97 k) N, μ9) := by
    have := wor_loop (μ := μ9) (ok := ok) (wo := fun k => ν.1 97 k) c0 (by rw [(ft9 69 (by omega)).1]; exact c1) (fun k hk => by
      rw [(ft9 71 (by omega)).1]
      exact ⟨(c3 k hk).2.1, (c3 k hk).2.2.1⟩) N 0 4096 (by omega) (by omega)
    exact this
  rw [hpr, bd_s]
  by_cases z : y1 = 0
  · rw [if_pos z] at u1 ⊢
    exact tfin_e h he ft9 u2 rfl u1
  · rw [if_neg z] at u1 ⊢
    rw [hwo, bd_s]
    exact tfin_e h he ft9 u2 rfl u1
