/-! the code of rules as a machine over a list -/
def heN (x m : Int32) : Int32 := if x ≤ m then (if -m ≤ x then x else -m) else m
theorem hel_e (x m : Int32) (μ : gs_M) : D_X11_held x m μ = some (heN x m, μ) := by
  unfold D_X11_held heN
  split
  · split <;> rfl
  · rfl
def jn (c l r : Int32) : Int32 := if c = 38 then l &&& r else if c = 42 then (if (lg_cmp ((Int32.toInt64 l) * (Int32.toInt64 r)) (1000000 : Int64)) ≤ 0 then (if 0 ≤ (lg_cmp ((Int32.toInt64 l) * (Int32.toInt64 r)) (-1000000 : Int64)) then Int64.toInt32 ((Int32.toInt64 l) * (Int32.toInt64 r)) else -1000000) else 1000000) else if c = 43 then heN (l + r) 1000000 else if c = 45 then heN (l - r) 1000000 else if c = 47 then (if r = 0 then 0 else l / r) else if c = 60 then (if r ≤ l then 0 else 1) else if c = 61 then (if l = r then 1 else 0) else if c = 62 then (if l ≤ r then 0 else 1) else l ||| r
theorem jn_e (c l r : Int32) (μ : gs_M) : D_X6_joined c l r μ = some (jn c l r, μ) := by
  unfold D_X6_joined jn
  rw [lt1, lt1, hel_e, hel_e, bd_s, bd_s]
  by_cases q0 : c = 38
  · rw [if_pos q0, if_pos q0]
  rw [if_neg q0, if_neg q0]
  by_cases q1 : c = 42
  · rw [if_pos q1, if_pos q1]
    split
    · split <;> rfl
    · rfl
  rw [if_neg q1, if_neg q1]
  by_cases q2 : c = 43
  · rw [if_pos q2, if_pos q2]
  rw [if_neg q2, if_neg q2]
  by_cases q3 : c = 45
  · rw [if_pos q3, if_pos q3]
  rw [if_neg q3, if_neg q3]
  by_cases q4 : c = 47
  · rw [if_pos q4, if_pos q4]
    by_cases q : r = 0
    · rw [if_pos q, if_pos q]
    · rw [if_neg q, if_neg q, nzi_t q, ck_t]
  rw [if_neg q4, if_neg q4]
  by_cases q5 : c = 60
  · rw [if_pos q5, if_pos q5]
    split <;> rfl
  rw [if_neg q5, if_neg q5]
  by_cases q6 : c = 61
  · rw [if_pos q6, if_pos q6]
    split <;> rfl
  rw [if_neg q6, if_neg q6]
  by_cases q7 : c = 62
  · rw [if_pos q7, if_pos q7]
    split <;> rfl
  rw [if_neg q7, if_neg q7]
def hdN : List Int32 → Int32
  | [] => 0
  | v :: _ => v
def run1 (L : Nat → Int32) (c : Int32) (s : List Int32) : List Int32 :=
  if c < 0 then (if ltr (-c) = -1 then (if c = -33 then (if hdN s = 0 then 1 else 0) :: s.tail else jn (-c) (hdN s.tail) (hdN s) :: s.tail.tail) else L (ltr (-c)).toNatClampNeg :: s) else c :: s
/-- the code from a on, n entries -/
def runN (L code : Nat → Int32) (a : Nat) : Nat → List Int32 → List Int32
  | 0, s => s
  | n + 1, s => runN L code (a + 1) n (run1 L (code a) s)
theorem runN_add {L code : Nat → Int32} : ∀ (n m a : Nat) (s : List Int32), runN L code a (n + m) s = runN L code (a + n) m (runN L code a n s)
  | 0, m, a, s => by rw [Nat.zero_add]; rfl
  | n + 1, m, a, s => by
    rw [show n + 1 + m = (n + m) + 1 by omega]
    show runN L code (a + 1) (n + m) (run1 L (code a) s) = runN L code (a + (n + 1)) m (runN L code (a + 1) n (run1 L (code a) s))
    rw [runN_add n m (a + 1), show a + 1 + n = a + (n + 1) by omega]
theorem runN_code {L code code' : Nat → Int32} : ∀ (n a : Nat) (s : List Int32), (∀ j, a ≤ j → j < a + n → code' j = code j) → runN L code' a n s = runN L code a n s
  | 0, _, _, _ => rfl
  | n + 1, a, s, h => by
    show runN L code' (a + 1) n (run1 L (code' a) s) = runN L code (a + 1) n (run1 L (code a) s)
    rw [h a (by omega) (by omega), runN_code n (a + 1) _ (fun j j1 j2 => h j (by omega) (by omega))]
/-- the class's stack is this list -/
def STk (f : Nat → Int32) : List Int32 → Prop
  | [] => True
  | v :: s => f s.length = v ∧ STk f s
def SK (μ : gs_M) (s : List Int32) : Prop := s.length ≤ 160 ∧ μ.1 16 5 = nI s.length ∧ STk (μ.1 24) s
def VF (μ μ' : gs_M) : Prop := (∀ b, b ≠ 16 → b ≠ 24 → μ'.1 b = μ.1 b) ∧ (∀ j, j ≠ 5 → μ'.1 16 j = μ.1 16 j) ∧ μ'.2 = μ.2
theorem VF.refl {μ : gs_M} : VF μ μ := ⟨fun _ _ _ => rfl, fun _ _ => rfl, rfl⟩
theorem VF.trans {μ0 μ1 μ2 : gs_M} (h : VF μ0 μ1) (g : VF μ1 μ2) : VF μ0 μ2 := ⟨fun b b1 b2 => (g.1 b b1 b2).trans (h.1 b b1 b2), fun j hj => (g.2.1 j hj).trans (h.2.1 j hj), g.2.2.trans h.2.2⟩
theorem STk.go {f f' : Nat → Int32} : ∀ {s : List Int32}, STk f s → (∀ j, j < s.length → f' j = f j) → STk f' s
  | [], _, _ => trivial
  | v :: s, h, hf => ⟨(hf _ (by rw [List.length_cons]; omega)).trans h.1, h.2.go (fun j hj => hf j (by rw [List.length_cons]; omega))⟩
theorem push_e {μ : gs_M} {s : List Int32} (h : SK μ s) (hs : s.length < 160) (v : Int32) : ∃ μ', D_X6_push v μ = some μ' ∧ SK μ' (v :: s) ∧ VF μ μ' := by
  obtain ⟨h1, h2, h3⟩ := h
  refine ⟨sI (sI μ 24 s.length v) 16 5 (nI (s.length + 1)), ?_, ⟨by rw [List.length_cons]; omega, by rw [sI_u, List.length_cons], ?_, ?_⟩, fun b b1 b2 => by rw [sI_n _ _ _ b1, sI_n _ _ _ b2], fun j hj => by rw [sI_o _ _ hj, sI_n _ _ _ (by decide)], rfl⟩
  · unfold D_X6_push
    rw [gI_d, h2, if_neg (show ¬ (160 : Int32) ≤ nI s.length by rw [show (160 : Int32) = nI 160 from rfl]; exact nI_ge (by omega) (by omega)), inb_n hs (by decide), ck_t, nI_clamp (by omega), lt1, lt1, gI_d, sI_n _ _ _ (by decide), h2, nI_1]
  · rw [sI_n _ _ _ (by decide), sI_u]
  · exact h3.go (fun j hj => by rw [sI_n _ _ _ (by decide), sI_o _ _ (by omega)])
theorem pop_e {μ : gs_M} {s : List Int32} (h : SK μ s) : ∃ μ', D_X6_pop μ = some (hdN s, μ') ∧ SK μ' s.tail ∧ VF μ μ' := by
  obtain ⟨h1, h2, h3⟩ := h
  unfold D_X6_pop
  match s, h1, h2, h3 with
  | [], h1, h2, h3 =>
    rw [gI_d, h2, if_neg (show ¬ (0 : Int32) < nI ([] : List Int32).length by decide)]
    exact ⟨μ, rfl, ⟨h1, h2, h3⟩, VF.refl⟩
  | v :: s, h1, h2, h3 =>
    rw [List.length_cons] at h1 h2
    rw [gI_d, h2, if_pos (show (0 : Int32) < nI (s.length + 1) from nI_lt (a := 0) (by omega) (by omega)), lt1, nI_m1 (by omega), Nat.add_sub_cancel, gI_d, sI_u, inb_n (show s.length < 160 by omega) (by decide), ck_t, nI_clamp (by omega), gI_d, sI_n _ _ _ (by decide), h3.1]
    exact ⟨_, rfl, ⟨by rw [List.tail_cons]; omega, by rw [sI_u, List.tail_cons], by rw [sI_n _ _ _ (by decide)]; exact h3.2⟩, fun b b1 b2 => sI_n _ _ _ b1, fun j hj => sI_o _ _ hj, rfl⟩
theorem ltr_r (g : Int32) : ltr g = -1 ∨ ∃ k, k < 6 ∧ ltr g = nI k := by
  unfold ltr
  split
  · exact Or.inr ⟨0, by decide, rfl⟩
  split
  · exact Or.inr ⟨1, by decide, rfl⟩
  split
  · exact Or.inr ⟨2, by decide, rfl⟩
  split
  · exact Or.inr ⟨3, by decide, rfl⟩
  split
  · exact Or.inr ⟨4, by decide, rfl⟩
  split
  · exact Or.inr ⟨5, by decide, rfl⟩
  exact Or.inl rfl
theorem step_e {μ : gs_M} {s : List Int32} {L : Nat → Int32} (h : SK μ s) (hs : s.length < 160) (hL : ∀ k, k < 6 → μ.1 17 k = L k) (c : Int32) : ∃ μ', D_X6_step c μ = some μ' ∧ SK μ' (run1 L c s) ∧ VF μ μ' := by
  unfold D_X6_step run1
  rw [ltr_e, bd_s]
  by_cases q : c < 0
  · rw [if_pos q, if_pos q]
    rcases ltr_r (-c) with e | ⟨k, hk, e⟩
    · rw [if_pos e, if_pos e]
      obtain ⟨μ1, t1, t2, t3⟩ := pop_e h
      have l1 : s.tail.length < 160 := by rw [List.length_tail]; omega
      by_cases q33 : c = -33
      · rw [if_pos q33, if_pos q33, t1, bd_s]
        unfold B_X6_step_55
        by_cases q0 : hdN s = 0
        · rw [if_pos q0, if_pos q0]
          obtain ⟨μ2, u1, u2, u3⟩ := push_e t2 l1 1
          exact ⟨μ2, by rw [u1, bd0_s], u2, t3.trans u3⟩
        · rw [if_neg q0, if_neg q0]
          obtain ⟨μ2, u1, u2, u3⟩ := push_e t2 l1 0
          exact ⟨μ2, by rw [u1, bd0_s], u2, t3.trans u3⟩
      · rw [if_neg q33, if_neg q33, t1, bd_s]
        obtain ⟨μ2, u1, u2, u3⟩ := pop_e t2
        obtain ⟨μ3, v1, v2, v3⟩ := push_e u2 (by rw [List.length_tail]; omega) (jn (-c) (hdN s.tail) (hdN s))
        rw [u1, bd_s, jn_e, bd_s, v1, bd0_s]
        exact ⟨μ3, rfl, v2, t3.trans (u3.trans v3)⟩
    · rw [e, if_neg (nI_nm1 (by omega)), if_neg (nI_nm1 (by omega)), inb_n hk (by decide), ck_t, nI_clamp (by omega), gI_d, hL k hk]
      obtain ⟨μ2, u1, u2, u3⟩ := push_e h hs (L k)
      exact ⟨μ2, by rw [u1, bd0_s], u2, u3⟩
  · rw [if_neg q, if_neg q]
    obtain ⟨μ2, u1, u2, u3⟩ := push_e h hs c
    exact ⟨μ2, by rw [u1, bd0_s], u2, u3⟩
/-! the model's arithmetic is the class's -/
def wN (z : Int64) : Int32 := Int64.toInt32 (if (if z < (1000000 : Int64) then z else (1000000 : Int64)) < (-1000000 : Int64) then (-1000000 : Int64) else (if z < (1000000 : Int64) then z else (1000000 : Int64)))
theorem wn_e (z : Int64) (ν : gs_M) : D_X12_within z ν = some (wN z, ν) := rfl
