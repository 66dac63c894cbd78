theorem ci_8 : Int32.ofInt 8 = 8 := by decide +kernel
def gs_μ0 : gs_M := (fun _ _ => 0, fun _ _ => 0)
def gs_ρ0 : gs_P := fun _ _ => false
def gs_ρF : gs_P := rX12_init (rX11_init gs_ρ0)
def gs_μF : gs_M := uX12_init (uX11_init gs_μ0)
def gs_ckF : Bool := (List.range 99).all fun a => (List.range 52).all fun k => !decide (k < ln a) || ((!(decide (kd a < 12) && (decide (fk (kd a) k = 2) || decide (fk (kd a) k = 3))) || gs_ρF a k) && (!(decide (23 ≤ kd a) && decide (kd a ≤ 25)) || gs_ρF a k))
theorem gs_ckT : gs_ckF = true := by decide +kernel
theorem gs_fF (a : Nat) (ha : a < 99) (k : Nat) (hk : k < 52) (hl : k < ln a) : (kd a < 12 → fk (kd a) k = 2 ∨ fk (kd a) k = 3 → gs_ρF a k = true) ∧ (kd a = 23 ∨ kd a = 24 ∨ kd a = 25 → gs_ρF a k = true) := by
  have h := List.all_eq_true.mp (List.all_eq_true.mp gs_ckT a (List.mem_range.mpr ha)) k (List.mem_range.mpr hk)
  simp only [Bool.or_eq_true, Bool.not_eq_true', Bool.and_eq_true, decide_eq_true_eq, decide_eq_false_iff_not, Bool.and_eq_false_iff, Bool.or_eq_false_iff] at h
  rcases h with h | ⟨h1, h2⟩
  · exact absurd hl h
  · refine ⟨fun q1 q2 => ?_, fun q => ?_⟩
    · rcases h1 with h1 | h1
      · rcases h1 with h1 | ⟨h1, h1'⟩
        · exact absurd q1 h1
        · exact (q2.elim h1 h1').elim
      · exact h1
    · rcases h2 with h2 | h2
      · omega
      · exact h2
theorem gs_kdr : ∀ a, a < 99 → (kd a < 12 ∨ kd a = 20 ∨ kd a = 21 ∨ kd a = 22 ∨ kd a = 23 ∨ kd a = 24 ∨ kd a = 25) ∧ ln a ≤ 640 ∧ (kd a < 12 ∨ 23 ≤ kd a → ln a ≤ 52) := by decide +kernel
theorem gs_arrc {c : ClassId} {n : Nat} {f f' : Nat → Value} (h : ∀ i, i < n → f i = f' i) : arrV c n f = arrV c n f' := by
  unfold arrV
  congr 1
  congr 1
  exact funext fun j => h j.val j.isLt
theorem gs_atF {ad : Nat → Nat} {g : va_G} {tyc : Nat → ClassId} {μ : gs_M} {H : Heap} {a : Nat} (ha : a < 99) (h : va_at g vwCl (ad a, gs_cellP ad tyc gs_ρF μ a) H) : va_at g vwCl (ad a, gs_cell ad tyc μ a) H := by
  obtain ⟨hk, -, hl⟩ := gs_kdr a ha
  have rf : 23 ≤ kd a → kd a ≤ 25 → ∀ i, i < ln a → gs_rfP ad gs_ρF a i = some (ad (R0 a i)) := fun h1 h2 i hi => by
    unfold gs_rfP
    rw [(gs_fF a ha i (by have := hl (Or.inr h1); omega) hi).2 (by omega)]
    rfl
  rcases hk with hk | hk | hk | hk | hk | hk | hk
  · rw [gs_objP rfl hk] at h
    rw [gs_obj rfl hk]
    have e : (List.range (ln a)).map (gs_fvP ad gs_ρF μ (kd a) a) = (List.range (ln a)).map (gs_fv ad μ (kd a) a) := by
      apply List.map_congr_left
      intro k hk9
      have hk9 := List.mem_range.mp hk9
      have hf := (gs_fF a ha k (by have := hl (Or.inl hk); omega) hk9).1 hk
      unfold gs_fvP gs_fv
      generalize fk (kd a) k = z at hf ⊢
      match z, hf with
      | 0, _ => rfl
      | 1, _ => rfl
      | 2, hf => rw [hf (Or.inl rfl)]; rfl
      | 3, hf => rw [hf (Or.inr rfl)]; rfl
      | 4, _ => rfl
      | z + 5, _ => rfl
    rw [e] at h
    exact h
  · rw [gs_c20 hk]; unfold gs_cellP at h; rw [hk] at h; exact h
  · rw [gs_c21 hk]; unfold gs_cellP at h; rw [hk] at h; exact h
  · rw [gs_c22 hk]; unfold gs_cellP at h; rw [hk] at h; exact h
  · rw [gs_c23 hk]
    unfold gs_cellP at h
    rw [hk] at h
    have h : H[ad a]? = some (vp_cell (tyc 3) (ln a, .inr (.inr (.inr (.inr (gs_rfP ad gs_ρF a)))))) := h
    show H[ad a]? = some (vp_cell (tyc 3) (ln a, .inr (.inr (.inr (.inr (fun i => some (ad (R0 a i))))))))
    rw [h, vp_cell_q, vp_cell_q]
    exact congrArg some (gs_arrc fun i hi => by rw [rf (by omega) (by omega) i hi])
  · rw [gs_c24 hk]
    unfold gs_cellP at h
    rw [hk] at h
    have h : H[ad a]? = some (vp_cell (tyc 4) (ln a, .inr (.inr (.inr (.inr (gs_rfP ad gs_ρF a)))))) := h
    show H[ad a]? = some (vp_cell (tyc 4) (ln a, .inr (.inr (.inr (.inr (fun i => some (ad (R0 a i))))))))
    rw [h, vp_cell_q, vp_cell_q]
    exact congrArg some (gs_arrc fun i hi => by rw [rf (by omega) (by omega) i hi])
  · rw [gs_c25 hk]
    unfold gs_cellP at h
    rw [hk] at h
    have h : H[ad a]? = some (vp_cell (tyc 5) (ln a, .inr (.inr (.inr (.inr (gs_rfP ad gs_ρF a)))))) := h
    show H[ad a]? = some (vp_cell (tyc 5) (ln a, .inr (.inr (.inr (.inr (fun i => some (ad (R0 a i))))))))
    rw [h, vp_cell_q, vp_cell_q]
    exact congrArg some (gs_arrc fun i hi => by rw [rf (by omega) (by omega) i hi])
section GSLY
variable {p : Program} {l : Launch} {e : Env} {s : State} {m : MethodId} {below : List Frame} {meth : Method} {c : Code}
variable {ad : Nat → Nat} {g : va_G} {tyc : Nat → ClassId} {L : Nat} {xs : Nat → Int32}
theorem gs_toP {R : Room} {args : Array Value} {cells slots nL pc : Nat} {Q : State → Prop} {ls st : List Value} {μ : gs_M} (k : WJ p l e R s m args below meth c cells slots Q ad g tyc nL pc ls st μ) : WP p l e R s m args below meth c cells slots Q ad g tyc nL pc ls st 99 gs_ρF μ := by
  intro H locs lr hP hS hl
  refine k H locs lr (fun j q hq => ?_) hS hl
  by_cases hj : j < 99
  · rw [gs_get hj] at hq
    cases hq
    exact gs_atF hj (hP j _ (gs_getP hj))
  · rw [List.getElem?_eq_none (by simp [gs_ws]; omega)] at hq
    cases hq
theorem lw_end {cells slots : Nat} {ls : List Value} {μ : gs_M} (hK : KC p room_1 s m #[Value.ref (ad 118)] meth c ad g tyc "GrainShiftLaw" code 7 ret 1000) (had : ∀ k, k < 99 → ad k = s.heap.size + k) (h1 : cells ≤ 601024) (h2 : slots ≤ 7293034) : WJ p l e room_1 s m #[Value.ref (ad 118)] below meth c cells slots (lw_Z below #[Value.ref (ad 118)] s) ad g tyc 7 2193 ls [] μ := by
  refine r_iconst hK d_law_2193 ci_1 ?_
  obtain ⟨hx, hb, hr, hlk, -⟩ := hK
  intro H locs lr hP hS hl
  refine va_forget (fun q hq => ?_) ?_
  · obtain ⟨a, ha, e9⟩ := hS.2.2 q hq
    rw [← e9, had a ha]
    omega
  refine W.widen (k := 601024) (n := 7293034) h1 h2 ?_
  exact lw_ret hx hb hr hlk d_law_2194.1
def gs_stepI (Rel Rel' : gs_M → Prop) : Prop := (∀ (μ : gs_M), Rel μ → ∀ (y0 : Int32) (y1 : Int32) (y2 : Int32) (y3 : Int32) (y4 : Int32), ∃ (r : Int32) (μ1 μ2 : gs_M), D_X11_feed y0 y1 y2 y3 y4 μ = some (r, μ1) ∧ D_X12_feed y0 y1 y2 y3 y4 μ1 = some (r, μ2) ∧ Rel' μ2) ∧
  (∀ (μ : gs_M), Rel μ → ∀ (y0 : Int32), ∃ (r : Int32) (μ1 μ2 : gs_M), D_X11_end y0 μ = some (r, μ1) ∧ D_X12_end y0 μ1 = some (r, μ2) ∧ Rel' μ2) ∧
  (∀ (μ : gs_M), Rel μ → ∀ (y0 : Int32), ∃ (r : Int32) (μ1 μ2 : gs_M), D_X11_fault y0 μ = some (r, μ1) ∧ D_X12_fault y0 μ1 = some (r, μ2) ∧ Rel' μ2) ∧
  (∀ (μ : gs_M), Rel μ → ∀ (y0 : Int32), ∃ (r : Int32) (μ1 μ2 : gs_M), D_X11_text y0 μ = some (r, μ1) ∧ D_X12_text y0 μ1 = some (r, μ2) ∧ Rel' μ2) ∧
  (∀ (μ : gs_M), Rel μ → ∀ (y0 : Int32) (y1 : Int32) (y2 : Int32), ∃ (r : Int32) (μ1 μ2 : gs_M), D_X11_ship y0 y1 y2 μ = some (r, μ1) ∧ D_X12_ship y0 y1 y2 μ1 = some (r, μ2) ∧ Rel' μ2) ∧
  (∀ (μ : gs_M), Rel μ → ∀ (y0 : Int32) (y1 : Int32) (y2 : Int32), ∃ (r : Int32) (μ1 μ2 : gs_M), D_X11_plan y0 y1 y2 μ = some (r, μ1) ∧ D_X12_plan y0 y1 y2 μ1 = some (r, μ2) ∧ Rel' μ2) ∧
  (∀ (μ : gs_M), Rel μ → ∀ (y0 : Int32) (y1 : Int32), ∃ (r : Int32) (μ1 μ2 : gs_M), D_X11_set y0 y1 μ = some (r, μ1) ∧ D_X12_set y0 y1 μ1 = some (r, μ2) ∧ Rel' μ2) ∧
  (∀ (μ : gs_M), Rel μ → ∀ (y0 : Int32) (y1 : Int32) (y2 : Int64), ∃ (r : Int32) (μ1 μ2 : gs_M), D_X11_load y0 y1 y2 μ = some (r, μ1) ∧ D_X12_load y0 y1 y2 μ1 = some (r, μ2) ∧ Rel' μ2) ∧
  (∀ (μ : gs_M), Rel μ → ∀ (y0 : Int32), ∃ (r : Int32) (μ1 μ2 : gs_M), D_X11_roll y0 μ = some (r, μ1) ∧ D_X12_roll y0 μ1 = some (r, μ2) ∧ Rel' μ2) ∧
  (∀ (μ : gs_M), Rel μ → ∀ (y0 : Int32), ∃ (r : Int32) (μ1 μ2 : gs_M), D_X11_day y0 μ = some (r, μ1) ∧ D_X12_day y0 μ1 = some (r, μ2) ∧ Rel' μ2) ∧
  (∀ (μ : gs_M), Rel μ → ∀ (y0 : Int32) (y1 : Int32) (y2 : Int32), ∃ (r : Int32) (μ1 μ2 : gs_M), D_X11_column y0 y1 y2 μ = some (r, μ1) ∧ D_X12_column y0 y1 y2 μ1 = some (r, μ2) ∧ Rel' μ2) ∧
  (∀ (μ : gs_M), Rel μ → ∀ (y0 : Int32) (y1 : Int32), ∃ (r : Int32) (μ1 μ2 : gs_M), D_X11_hold y0 y1 μ = some (r, μ1) ∧ D_X12_hold y0 y1 μ1 = some (r, μ2) ∧ Rel' μ2) ∧
  (∀ (μ : gs_M), Rel μ → ∀ (y0 : Int32), ∃ (r : Int32) (μ1 μ2 : gs_M), D_X11_about y0 μ = some (r, μ1) ∧ D_X12_about y0 μ1 = some (r, μ2) ∧ Rel' μ2) ∧
  (∀ (μ : gs_M), Rel μ → ∀ (y0 : Int32) (y1 : Int32), ∃ (r : Int32) (μ1 μ2 : gs_M), D_X11_goes y0 y1 μ = some (r, μ1) ∧ D_X12_goes y0 y1 μ1 = some (r, μ2) ∧ Rel' μ2) ∧
  (∀ (μ : gs_M), Rel μ → ∃ (r : Int32) (μ1 μ2 : gs_M), D_X11_least  μ = some (r, μ1) ∧ D_X12_least  μ1 = some (r, μ2) ∧ Rel' μ2) ∧
  (∀ (μ : gs_M), Rel μ → ∀ (y0 : Int32) (y1 : Int32), ∃ (r : Int32) (μ1 μ2 : gs_M), D_X11_runs y0 y1 μ = some (r, μ1) ∧ D_X12_runs y0 y1 μ1 = some (r, μ2) ∧ Rel' μ2) ∧
  (∀ (μ : gs_M), Rel μ → ∀ (y0 : Int32), ∃ (r : Int32) (μ1 μ2 : gs_M), D_X11_ballast y0 μ = some (r, μ1) ∧ D_X12_ballast y0 μ1 = some (r, μ2) ∧ Rel' μ2) ∧
  (∀ (μ : gs_M), Rel μ → ∀ (y0 : Int32) (y1 : Int32), ∃ (r : Int32) (μ1 μ2 : gs_M), D_X11_course y0 y1 μ = some (r, μ1) ∧ D_X12_course y0 y1 μ1 = some (r, μ2) ∧ Rel' μ2) ∧
  (∀ (μ : gs_M), Rel μ → ∀ (y0 : Int32), ∃ (r : Int32) (μ1 μ2 : gs_M), D_X11_best y0 μ = some (r, μ1) ∧ D_X12_best y0 μ1 = some (r, μ2) ∧ Rel' μ2) ∧
  (∀ (μ : gs_M), Rel μ → ∀ (y0 : Int32) (y1 : Int32), ∃ (r : Int32) (μ1 μ2 : gs_M), D_X11_cost y0 y1 μ = some (r, μ1) ∧ D_X12_cost y0 y1 μ1 = some (r, μ2) ∧ Rel' μ2) ∧
  (∀ (μ : gs_M), Rel μ → ∀ (y0 : Int32) (y1 : Int32) (y2 : Int32) (y3 : Int32) (y4 : Int32), ∃ (r : Int32) (μ1 μ2 : gs_M), D_X11_safe y0 y1 y2 y3 y4 μ = some (r, μ1) ∧ D_X12_safe y0 y1 y2 y3 y4 μ1 = some (r, μ2) ∧ Rel' μ2) ∧
  (∀ (μ : gs_M), Rel μ → ∀ (y0 : Int32) (y1 : Int32) (y2 : Int32) (y3 : Int32) (y4 : Int32), ∃ (r : Int32) (μ1 μ2 : gs_M), D_X11_cheapest y0 y1 y2 y3 y4 μ = some (r, μ1) ∧ D_X12_cheapest y0 y1 y2 y3 y4 μ1 = some (r, μ2) ∧ Rel' μ2) ∧
  (∀ (μ : gs_M), Rel μ → ∀ (y0 : Int32) (y1 : Int32) (y2 : Int32) (y3 : Int32) (y4 : Int32) (y5 : Int32) (y6 : Int32), ∃ (r : Int32) (μ1 μ2 : gs_M), D_X11_fitted y0 y1 y2 y3 y4 y5 y6 μ = some (r, μ1) ∧ D_X12_fitted y0 y1 y2 y3 y4 y5 y6 μ1 = some (r, μ2) ∧ Rel' μ2) ∧
  (∀ (μ : gs_M), Rel μ → ∀ (y0 : Int32), ∃ (r : Int32) (μ1 μ2 : gs_M), D_X11_log y0 μ = some (r, μ1) ∧ D_X12_log y0 μ1 = some (r, μ2) ∧ Rel' μ2) ∧
  (∀ (μ : gs_M), Rel μ → ∀ (y0 : Int32) (y1 : Int32) (y2 : Int32), ∃ (r : Int32) (μ1 μ2 : gs_M), D_X11_agree y0 y1 y2 μ = some (r, μ1) ∧ D_X12_agree y0 y1 y2 μ1 = some (r, μ2) ∧ Rel' μ2) ∧
  (∀ (μ : gs_M), Rel μ → ∀ (y0 : Int32), ∃ (r : Int32) (μ1 μ2 : gs_M), D_X11_heap y0 μ = some (r, μ1) ∧ D_X12_heap y0 μ1 = some (r, μ2) ∧ Rel' μ2) ∧
  (∀ (μ : gs_M), Rel μ → ∀ (y0 : Int32) (y1 : Int32), ∃ (r : Int32) (μ1 μ2 : gs_M), D_X11_miss y0 y1 μ = some (r, μ1) ∧ D_X12_miss y0 y1 μ1 = some (r, μ2) ∧ Rel' μ2) ∧
  (∀ (μ : gs_M), Rel μ → ∀ (y0 : Int32) (y1 : Int32), ∃ (r : Int32) (μ1 μ2 : gs_M), D_X11_enough y0 y1 μ = some (r, μ1) ∧ D_X12_enough y0 y1 μ1 = some (r, μ2) ∧ Rel' μ2) ∧
  (∀ (μ : gs_M), Rel μ → ∀ (y0 : Int32) (y1 : Int32) (y2 : Int32) (y3 : Int32), ∃ (r : Int32) (μ1 μ2 : gs_M), D_X11_refuse y0 y1 y2 y3 μ = some (r, μ1) ∧ D_X12_refuse y0 y1 y2 y3 μ1 = some (r, μ2) ∧ Rel' μ2) ∧
  (∀ (μ : gs_M), Rel μ → ∃ (r : Int32) (μ1 μ2 : gs_M), D_X11_image  μ = some (r, μ1) ∧ D_X12_image  μ1 = some (r, μ2) ∧ Rel' μ2) ∧
  (∀ (μ : gs_M), Rel μ → ∃ (r : Int32) (μ1 μ2 : gs_M), D_X11_back  μ = some (r, μ1) ∧ D_X12_back  μ1 = some (r, μ2) ∧ Rel' μ2) ∧
  (∀ (μ : gs_M), Rel μ → ∀ (y0 : Int32) (y1 : Int32), ∃ (r : Int32) (μ1 μ2 : gs_M), D_X11_trim y0 y1 μ = some (r, μ1) ∧ D_X12_trim y0 y1 μ1 = some (r, μ2) ∧ Rel' μ2) ∧
  (∀ (μ : gs_M), Rel μ → ∀ (y0 : Int32) (y1 : Int32) (y2 : Int32), ∃ (r : Int32) (μ1 μ2 : gs_M), D_X11_pour y0 y1 y2 μ = some (r, μ1) ∧ D_X12_pour y0 y1 y2 μ1 = some (r, μ2) ∧ Rel' μ2) ∧
  (∀ (μ : gs_M), Rel μ → ∀ (y0 : Int32) (y1 : Int32) (y2 : Int32), ∃ (r : Int32) (μ1 μ2 : gs_M), D_X11_take y0 y1 y2 μ = some (r, μ1) ∧ D_X12_take y0 y1 y2 μ1 = some (r, μ2) ∧ Rel' μ2) ∧
  (∀ (μ : gs_M), Rel μ → ∀ (y0 : Int32), ∃ (r : Int32) (μ1 μ2 : gs_M), D_X11_heel y0 μ = some (r, μ1) ∧ D_X12_heel y0 μ1 = some (r, μ2) ∧ Rel' μ2) ∧
  (∀ (μ : gs_M), Rel μ → ∀ (y0 : Int32) (y1 : Int32) (y2 : Int32), ∃ (r : Int32) (μ1 μ2 : gs_M), D_X11_tilt y0 y1 y2 μ = some (r, μ1) ∧ D_X12_tilt y0 y1 y2 μ1 = some (r, μ2) ∧ Rel' μ2) ∧
  (∀ (μ : gs_M), Rel μ → ∀ (y0 : Int32) (y1 : Int32), ∃ (r : Int32) (μ1 μ2 : gs_M), D_X11_ripens y0 y1 μ = some (r, μ1) ∧ D_X12_ripens y0 y1 μ1 = some (r, μ2) ∧ Rel' μ2) ∧
  (∀ (μ : gs_M), Rel μ → ∀ (y0 : Int32) (y1 : Int32), ∃ (r : Int32) (μ1 μ2 : gs_M), D_X11_slide y0 y1 μ = some (r, μ1) ∧ D_X12_slide y0 y1 μ1 = some (r, μ2) ∧ Rel' μ2) ∧
  (∀ (μ : gs_M), Rel μ → ∀ (y0 : Int32) (y1 : Int32), ∃ (r : Int32) (μ1 μ2 : gs_M), D_X11_port y0 y1 μ = some (r, μ1) ∧ D_X12_port y0 y1 μ1 = some (r, μ2) ∧ Rel' μ2) ∧
  (∀ (μ : gs_M), Rel μ → ∀ (y0 : Int32) (y1 : Int32), ∃ (r : Int32) (μ1 μ2 : gs_M), D_X11_reach y0 y1 μ = some (r, μ1) ∧ D_X12_reach y0 y1 μ1 = some (r, μ2) ∧ Rel' μ2) ∧
  (∀ (μ : gs_M), Rel μ → ∀ (y0 : Int32) (y1 : Int32) (y2 : Int32) (y3 : Int32), ∃ (r : Int32) (μ1 μ2 : gs_M), D_X11_over y0 y1 y2 y3 μ = some (r, μ1) ∧ D_X12_over y0 y1 y2 y3 μ1 = some (r, μ2) ∧ Rel' μ2) ∧
  (∀ (μ : gs_M), Rel μ → ∀ (y0 : Int32), ∃ (r : Int32) (μ1 μ2 : gs_M), D_X11_soonest y0 μ = some (r, μ1) ∧ D_X12_soonest y0 μ1 = some (r, μ2) ∧ Rel' μ2) ∧
  (∀ (μ : gs_M), Rel μ → ∀ (y0 : Int32), ∃ (r : Int32) (μ1 μ2 : gs_M), D_X11_book y0 μ = some (r, μ1) ∧ D_X12_book y0 μ1 = some (r, μ2) ∧ Rel' μ2) ∧
  (∀ (μ : gs_M), Rel μ → ∀ (y0 : Int32) (y1 : Int32) (y2 : Int32) (y3 : Int32) (y4 : Int32), ∃ (r : Int32) (μ1 μ2 : gs_M), D_X11_follow y0 y1 y2 y3 y4 μ = some (r, μ1) ∧ D_X12_follow y0 y1 y2 y3 y4 μ1 = some (r, μ2) ∧ Rel' μ2) ∧
  (∀ (μ : gs_M), Rel μ → ∀ (y0 : Int32) (y1 : Int32) (y2 : Int32), ∃ (r : Int32) (μ1 μ2 : gs_M), D_X11_better y0 y1 y2 μ = some (r, μ1) ∧ D_X12_better y0 y1 y2 μ1 = some (r, μ2) ∧ Rel' μ2) ∧
  (∀ (μ : gs_M), Rel μ → ∃ (r : Int32) (μ1 μ2 : gs_M), D_X11_rules  μ = some (r, μ1) ∧ D_X12_rules  μ1 = some (r, μ2) ∧ Rel' μ2) ∧
  (∀ (μ : gs_M), Rel μ → ∀ (y0 : Int32), ∃ (r : Int32) (μ1 μ2 : gs_M), D_X11_count y0 μ = some (r, μ1) ∧ D_X12_count y0 μ1 = some (r, μ2) ∧ Rel' μ2)
def gs_stuffH (p : Program) (l : Launch) (e : Env) (s : State) (m : MethodId) (below : List Frame) (meth : Method) (c : Code) (ad : Nat → Nat) (g : va_G) (tyc : Nat → ClassId) (L : Nat) (Rel : Nat → gs_M → Prop) : Prop := ∀ (i : Nat) (μ : gs_M) (cells slots : Nat), i + 8 ≤ L → Rel i μ → cells + 1 ≤ 601024 → slots + 6 ≤ 7293034 →
  (∀ (μ2 : gs_M) (c2 s2 : Nat), Rel (i + 8) μ2 → c2 ≤ cells + 1 → s2 ≤ slots + 6 → WJ p l e room_1 s m #[Value.ref (ad 118)] below meth c c2 s2 (lw_Z below #[Value.ref (ad 118)] s) ad g tyc 7 2187 (gs_pst i) [] μ2) → WJ p l e room_1 s m #[Value.ref (ad 118)] below meth c cells slots (lw_Z below #[Value.ref (ad 118)] s) ad g tyc 7 396 (gs_pst i) [] μ
theorem lw_cmp {i : Nat} (hL : L ≤ 4096) (hi : i ≤ 4104) : (nI L - 8 < nI i) ↔ L < i + 8 := by
  rw [Int32.lt_iff_toInt_lt, show (8 : Int32) = nI 8 by decide +kernel, pk_sub_toInt (by omega) (by omega), nI_toInt (by omega)]
  omega
set_option maxHeartbeats 4000000 in
set_option maxRecDepth 20000 in
theorem law_loop {Rel : Nat → gs_M → Prop} (hK : KC p room_1 s m #[Value.ref (ad 118)] meth c ad g tyc "GrainShiftLaw" code 7 ret 1000) (hX : va_X (ad 118) L xs s s.heap) (hbl : ad 118 < s.heap.size) (had : ∀ k, k < 99 → ad k = s.heap.size + k) (hL : L ≤ 4096) (hw : ∀ i μ, Rel i μ → Rel (i + 8) μ) (hG : ∀ i, i + 8 ≤ L → gs_stepI (Rel i) (Rel (i + 8))) (hSt : gs_stuffH p l e s m below meth c ad g tyc L Rel) : ∀ (n i cells slots : Nat) (μ : gs_M), L < i + 8 * n → i ≤ L + 8 → Rel i μ → cells ≤ 99 + i → slots ≤ 4000 + i → WJ p l e room_1 s m #[Value.ref (ad 118)] below meth c cells slots (lw_Z below #[Value.ref (ad 118)] s) ad g tyc 7 23 (gs_pst i) [] μ := by
  intro n
  induction n with
  | zero =>
    intro i cells slots μ h1 h2 hR h3 h4
    refine r_iload hK d_law_23 rfl ?_
    refine r_aload_n hK d_law_25 rfl rfl ?_
    refine r_slen2 hK hX hbl had d_law_26 ?_
    refine r_bipush hK d_law_27 cb_8 ?_
    refine r_isub hK d_law_29 ?_
    refine r_icmp_gt (tgt := 2193) hK d_law_30 (by decide) (fun _ => lw_end hK had (by omega) (by omega)) (fun h => absurd ((lw_cmp hL (by omega)).mpr (by omega)) h)
  | succ n ih =>
    intro i cells slots μ h1 h2 hR h3 h4
    refine r_iload hK d_law_23 rfl ?_
    refine r_aload_n hK d_law_25 rfl rfl ?_
    refine r_slen2 hK hX hbl had d_law_26 ?_
    refine r_bipush hK d_law_27 cb_8 ?_
    refine r_isub hK d_law_29 ?_
    refine r_icmp_gt (tgt := 2193) hK d_law_30 (by decide) (fun _ => lw_end hK had (by omega) (by omega)) (fun h => ?_)
    have hi : i + 8 ≤ L := Nat.not_lt.mp (fun q => h ((lw_cmp hL (by omega)).mpr q))
    obtain ⟨g0, g1, g2, g3, g5, g6, g7, g8, g9, g10, g11, g12, g13, g14, g15, g16, g17, g18, g19, g20, g21, g22, g23, g24, g25, g26, g27, g28, g29, g30, g31, g32, g33, g34, g35, g36, g37, g38, g39, g40, g41, g42, g43, g44, g45, g46, g47⟩ := hG i hi
    have inc : ∀ (μ2 : gs_M) (c2 s2 : Nat), Rel (i + 8) μ2 → c2 ≤ cells + 1 → s2 ≤ slots + 6 → WJ p l e room_1 s m #[Value.ref (ad 118)] below meth c c2 s2 (lw_Z below #[Value.ref (ad 118)] s) ad g tyc 7 2187 (gs_pst i) [] μ2 := fun μ2 c2 s2 hR2 q1 q2 => by
      refine r_iinc hK d_law_2187 rfl (v := nI (i + 8)) (by rw [ci_8, show (8 : Int32) = nI 8 by decide +kernel, nI_add]) (by decide) (ls2 := gs_pst (i + 8)) rfl ?_
      refine r_goto (tgt := 23) hK d_law_2190 (by decide) ?_
      exact ih (i + 8) c2 s2 μ2 (by omega) (by omega) hR2 (by omega) (by omega)
    have hcs : cells ≤ room_1.cells ∧ slots ≤ room_1.slots := ⟨(by show cells ≤ 601024; omega), (by show slots ≤ 7293034; omega)⟩
    have kk : ∀ μ2, Rel (i + 8) μ2 → WJ p l e room_1 s m #[Value.ref (ad 118)] below meth c cells slots (lw_Z below #[Value.ref (ad 118)] s) ad g tyc 7 2187 (gs_pst i) [] μ2 := fun μ2 hR2 => inc μ2 cells slots hR2 (by omega) (by omega)
    refine r_aload_n hK d_law_33 rfl rfl ?_
    refine r_iload hK d_law_34 rfl ?_
    refine r_sld hK hX hbl had (sl_in0 hi hL) d_law_36 ?_
    refine r_bipush hK d_law_37 cb_63 ?_
    refine r_iand hK d_law_39 ?_
    generalize xs (nI i).toNatClampNeg &&& 63 = x
    by_cases h0 : x = 0
    · subst h0
      refine r_tableIn (off := 208) (tgt := 248) hK d_law_40 (by decide) (by decide) (by decide) (by decide) ?_
      exact lc_0 hK hX hbl had hi hL hcs (g0 μ hR _ _ _ _ _) kk
    by_cases h1 : x = 1
    · subst h1
      refine r_tableIn (off := 281) (tgt := 321) hK d_law_40 (by decide) (by decide) (by decide) (by decide) ?_
      exact lc_1 hK hX hbl had hi hL hcs (g1 μ hR _) kk
    by_cases h2 : x = 2
    · subst h2
      refine r_tableIn (off := 306) (tgt := 346) hK d_law_40 (by decide) (by decide) (by decide) (by decide) ?_
      exact lc_2 hK hX hbl had hi hL hcs (g2 μ hR _) kk
    by_cases h3 : x = 3
    · subst h3
      refine r_tableIn (off := 331) (tgt := 371) hK d_law_40 (by decide) (by decide) (by decide) (by decide) ?_
      exact lc_3 hK hX hbl had hi hL hcs (g3 μ hR _) kk
    by_cases h4 : x = 4
    · subst h4
      refine r_tableIn (off := 356) (tgt := 396) hK d_law_40 (by decide) (by decide) (by decide) (by decide) ?_
      exact hSt i μ cells slots hi hR (by omega) (by omega) inc
    by_cases h5 : x = 5
    · subst h5
      refine r_tableIn (off := 424) (tgt := 464) hK d_law_40 (by decide) (by decide) (by decide) (by decide) ?_
      exact lc_5 hK hX hbl had hi hL hcs (g5 μ hR _ _ _) kk
    by_cases h6 : x = 6
    · subst h6
      refine r_tableIn (off := 473) (tgt := 513) hK d_law_40 (by decide) (by decide) (by decide) (by decide) ?_
      exact lc_6 hK hX hbl had hi hL hcs (g6 μ hR _ _ _) kk
    by_cases h7 : x = 7
    · subst h7
      refine r_tableIn (off := 522) (tgt := 562) hK d_law_40 (by decide) (by decide) (by decide) (by decide) ?_
      exact lc_7 hK hX hbl had hi hL hcs (g7 μ hR _ _) kk
    by_cases h8 : x = 8
    · subst h8
      refine r_tableIn (off := 559) (tgt := 599) hK d_law_40 (by decide) (by decide) (by decide) (by decide) ?_
      exact lc_8 hK hX hbl had hi hL hcs (g8 μ hR _ _ _) kk
    by_cases h9 : x = 9
    · subst h9
      refine r_tableIn (off := 640) (tgt := 680) hK d_law_40 (by decide) (by decide) (by decide) (by decide) ?_
      exact lc_9 hK hX hbl had hi hL hcs (g9 μ hR _) kk
    by_cases h10 : x = 10
    · subst h10
      refine r_tableIn (off := 665) (tgt := 705) hK d_law_40 (by decide) (by decide) (by decide) (by decide) ?_
      exact lc_10 hK hX hbl had hi hL hcs (g10 μ hR _) kk
    by_cases h11 : x = 11
    · subst h11
      refine r_tableIn (off := 690) (tgt := 730) hK d_law_40 (by decide) (by decide) (by decide) (by decide) ?_
      exact lc_11 hK hX hbl had hi hL hcs (g11 μ hR _ _ _) kk
    by_cases h12 : x = 12
    · subst h12
      refine r_tableIn (off := 739) (tgt := 779) hK d_law_40 (by decide) (by decide) (by decide) (by decide) ?_
      exact lc_12 hK hX hbl had hi hL hcs (g12 μ hR _ _) kk
    by_cases h13 : x = 13
    · subst h13
      refine r_tableIn (off := 776) (tgt := 816) hK d_law_40 (by decide) (by decide) (by decide) (by decide) ?_
      exact lc_13 hK hX hbl had hi hL hcs (g13 μ hR _) kk
    by_cases h14 : x = 14
    · subst h14
      refine r_tableIn (off := 801) (tgt := 841) hK d_law_40 (by decide) (by decide) (by decide) (by decide) ?_
      exact lc_14 hK hX hbl had hi hL hcs (g14 μ hR _ _) kk
    by_cases h15 : x = 15
    · subst h15
      refine r_tableIn (off := 838) (tgt := 878) hK d_law_40 (by decide) (by decide) (by decide) (by decide) ?_
      exact lc_15 hK hX hbl had hi hL hcs (g15 μ hR) kk
    by_cases h16 : x = 16
    · subst h16
      refine r_tableIn (off := 851) (tgt := 891) hK d_law_40 (by decide) (by decide) (by decide) (by decide) ?_
      exact lc_16 hK hX hbl had hi hL hcs (g16 μ hR _ _) kk
    by_cases h17 : x = 17
    · subst h17
      refine r_tableIn (off := 888) (tgt := 928) hK d_law_40 (by decide) (by decide) (by decide) (by decide) ?_
      exact lc_17 hK hX hbl had hi hL hcs (g17 μ hR _) kk
    by_cases h18 : x = 18
    · subst h18
      refine r_tableIn (off := 913) (tgt := 953) hK d_law_40 (by decide) (by decide) (by decide) (by decide) ?_
      exact lc_18 hK hX hbl had hi hL hcs (g18 μ hR _ _) kk
    by_cases h19 : x = 19
    · subst h19
      refine r_tableIn (off := 950) (tgt := 990) hK d_law_40 (by decide) (by decide) (by decide) (by decide) ?_
      exact lc_19 hK hX hbl had hi hL hcs (g19 μ hR _) kk
    by_cases h20 : x = 20
    · subst h20
      refine r_tableIn (off := 975) (tgt := 1015) hK d_law_40 (by decide) (by decide) (by decide) (by decide) ?_
      exact lc_20 hK hX hbl had hi hL hcs (g20 μ hR _ _) kk
    by_cases h21 : x = 21
    · subst h21
      refine r_tableIn (off := 1012) (tgt := 1052) hK d_law_40 (by decide) (by decide) (by decide) (by decide) ?_
      exact lc_21 hK hX hbl had hi hL hcs (g21 μ hR _ _ _ _ _) kk
    by_cases h22 : x = 22
    · subst h22
      refine r_tableIn (off := 1085) (tgt := 1125) hK d_law_40 (by decide) (by decide) (by decide) (by decide) ?_
      exact lc_22 hK hX hbl had hi hL hcs (g22 μ hR _ _ _ _ _) kk
    by_cases h23 : x = 23
    · subst h23
      refine r_tableIn (off := 1158) (tgt := 1198) hK d_law_40 (by decide) (by decide) (by decide) (by decide) ?_
      exact lc_23 hK hX hbl had hi hL hcs (g23 μ hR _ _ _ _ _ _ _) kk
    by_cases h24 : x = 24
    · subst h24
      refine r_tableIn (off := 1259) (tgt := 1299) hK d_law_40 (by decide) (by decide) (by decide) (by decide) ?_
      exact lc_24 hK hX hbl had hi hL hcs (g24 μ hR _) kk
    by_cases h25 : x = 25
    · subst h25
      refine r_tableIn (off := 1284) (tgt := 1324) hK d_law_40 (by decide) (by decide) (by decide) (by decide) ?_
      exact lc_25 hK hX hbl had hi hL hcs (g25 μ hR _ _ _) kk
    by_cases h26 : x = 26
    · subst h26
      refine r_tableIn (off := 1333) (tgt := 1373) hK d_law_40 (by decide) (by decide) (by decide) (by decide) ?_
      exact lc_26 hK hX hbl had hi hL hcs (g26 μ hR _) kk
    by_cases h27 : x = 27
    · subst h27
      refine r_tableIn (off := 1358) (tgt := 1398) hK d_law_40 (by decide) (by decide) (by decide) (by decide) ?_
      exact lc_27 hK hX hbl had hi hL hcs (g27 μ hR _ _) kk
    by_cases h28 : x = 28
    · subst h28
      refine r_tableIn (off := 1395) (tgt := 1435) hK d_law_40 (by decide) (by decide) (by decide) (by decide) ?_
      exact lc_28 hK hX hbl had hi hL hcs (g28 μ hR _ _) kk
    by_cases h29 : x = 29
    · subst h29
      refine r_tableIn (off := 1432) (tgt := 1472) hK d_law_40 (by decide) (by decide) (by decide) (by decide) ?_
      exact lc_29 hK hX hbl had hi hL hcs (g29 μ hR _ _ _ _) kk
    by_cases h30 : x = 30
    · subst h30
      refine r_tableIn (off := 1493) (tgt := 1533) hK d_law_40 (by decide) (by decide) (by decide) (by decide) ?_
      exact lc_30 hK hX hbl had hi hL hcs (g30 μ hR) kk
    by_cases h31 : x = 31
    · subst h31
      refine r_tableIn (off := 1506) (tgt := 1546) hK d_law_40 (by decide) (by decide) (by decide) (by decide) ?_
      exact lc_31 hK hX hbl had hi hL hcs (g31 μ hR) kk
    by_cases h32 : x = 32
    · subst h32
      refine r_tableIn (off := 1519) (tgt := 1559) hK d_law_40 (by decide) (by decide) (by decide) (by decide) ?_
      exact lc_32 hK hX hbl had hi hL hcs (g32 μ hR _ _) kk
    by_cases h33 : x = 33
    · subst h33
      refine r_tableIn (off := 1556) (tgt := 1596) hK d_law_40 (by decide) (by decide) (by decide) (by decide) ?_
      exact lc_33 hK hX hbl had hi hL hcs (g33 μ hR _ _ _) kk
    by_cases h34 : x = 34
    · subst h34
      refine r_tableIn (off := 1605) (tgt := 1645) hK d_law_40 (by decide) (by decide) (by decide) (by decide) ?_
      exact lc_34 hK hX hbl had hi hL hcs (g34 μ hR _ _ _) kk
    by_cases h35 : x = 35
    · subst h35
      refine r_tableIn (off := 1654) (tgt := 1694) hK d_law_40 (by decide) (by decide) (by decide) (by decide) ?_
      exact lc_35 hK hX hbl had hi hL hcs (g35 μ hR _) kk
    by_cases h36 : x = 36
    · subst h36
      refine r_tableIn (off := 1679) (tgt := 1719) hK d_law_40 (by decide) (by decide) (by decide) (by decide) ?_
      exact lc_36 hK hX hbl had hi hL hcs (g36 μ hR _ _ _) kk
    by_cases h37 : x = 37
    · subst h37
      refine r_tableIn (off := 1728) (tgt := 1768) hK d_law_40 (by decide) (by decide) (by decide) (by decide) ?_
      exact lc_37 hK hX hbl had hi hL hcs (g37 μ hR _ _) kk
    by_cases h38 : x = 38
    · subst h38
      refine r_tableIn (off := 1765) (tgt := 1805) hK d_law_40 (by decide) (by decide) (by decide) (by decide) ?_
      exact lc_38 hK hX hbl had hi hL hcs (g38 μ hR _ _) kk
    by_cases h39 : x = 39
    · subst h39
      refine r_tableIn (off := 1802) (tgt := 1842) hK d_law_40 (by decide) (by decide) (by decide) (by decide) ?_
      exact lc_39 hK hX hbl had hi hL hcs (g39 μ hR _ _) kk
    by_cases h40 : x = 40
    · subst h40
      refine r_tableIn (off := 1839) (tgt := 1879) hK d_law_40 (by decide) (by decide) (by decide) (by decide) ?_
      exact lc_40 hK hX hbl had hi hL hcs (g40 μ hR _ _) kk
    by_cases h41 : x = 41
    · subst h41
      refine r_tableIn (off := 1876) (tgt := 1916) hK d_law_40 (by decide) (by decide) (by decide) (by decide) ?_
      exact lc_41 hK hX hbl had hi hL hcs (g41 μ hR _ _ _ _) kk
    by_cases h42 : x = 42
    · subst h42
      refine r_tableIn (off := 1937) (tgt := 1977) hK d_law_40 (by decide) (by decide) (by decide) (by decide) ?_
      exact lc_42 hK hX hbl had hi hL hcs (g42 μ hR _) kk
    by_cases h43 : x = 43
    · subst h43
      refine r_tableIn (off := 1962) (tgt := 2002) hK d_law_40 (by decide) (by decide) (by decide) (by decide) ?_
      exact lc_43 hK hX hbl had hi hL hcs (g43 μ hR _) kk
    by_cases h44 : x = 44
    · subst h44
      refine r_tableIn (off := 1987) (tgt := 2027) hK d_law_40 (by decide) (by decide) (by decide) (by decide) ?_
      exact lc_44 hK hX hbl had hi hL hcs (g44 μ hR _ _ _ _ _) kk
    by_cases h45 : x = 45
    · subst h45
      refine r_tableIn (off := 2060) (tgt := 2100) hK d_law_40 (by decide) (by decide) (by decide) (by decide) ?_
      exact lc_45 hK hX hbl had hi hL hcs (g45 μ hR _ _ _) kk
    by_cases h46 : x = 46
    · subst h46
      refine r_tableIn (off := 2109) (tgt := 2149) hK d_law_40 (by decide) (by decide) (by decide) (by decide) ?_
      exact lc_46 hK hX hbl had hi hL hcs (g46 μ hR) kk
    by_cases h47 : x = 47
    · subst h47
      refine r_tableIn (off := 2122) (tgt := 2162) hK d_law_40 (by decide) (by decide) (by decide) (by decide) ?_
      exact lc_47 hK hX hbl had hi hL hcs (g47 μ hR _) kk
    refine r_tableOut (tgt := 2187) hK d_law_40 (sw_out (fun k q1 q2 => by rcases (show k = 0 ∨ k = 1 ∨ k = 2 ∨ k = 3 ∨ k = 4 ∨ k = 5 ∨ k = 6 ∨ k = 7 ∨ k = 8 ∨ k = 9 ∨ k = 10 ∨ k = 11 ∨ k = 12 ∨ k = 13 ∨ k = 14 ∨ k = 15 ∨ k = 16 ∨ k = 17 ∨ k = 18 ∨ k = 19 ∨ k = 20 ∨ k = 21 ∨ k = 22 ∨ k = 23 ∨ k = 24 ∨ k = 25 ∨ k = 26 ∨ k = 27 ∨ k = 28 ∨ k = 29 ∨ k = 30 ∨ k = 31 ∨ k = 32 ∨ k = 33 ∨ k = 34 ∨ k = 35 ∨ k = 36 ∨ k = 37 ∨ k = 38 ∨ k = 39 ∨ k = 40 ∨ k = 41 ∨ k = 42 ∨ k = 43 ∨ k = 44 ∨ k = 45 ∨ k = 46 ∨ k = 47 by omega) with rfl | rfl | rfl | rfl | rfl | rfl | rfl | rfl | rfl | rfl | rfl | rfl | rfl | rfl | rfl | rfl | rfl | rfl | rfl | rfl | rfl | rfl | rfl | rfl | rfl | rfl | rfl | rfl | rfl | rfl | rfl | rfl | rfl | rfl | rfl | rfl | rfl | rfl | rfl | rfl | rfl | rfl | rfl | rfl | rfl | rfl | rfl | rfl <;> assumption)) (by decide) ?_
    exact kk μ (hw i μ hR)
end GSLY
