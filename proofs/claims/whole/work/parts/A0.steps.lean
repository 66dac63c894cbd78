/-! every call keeps the relation -/
theorem st_all {i : Nat} (hi : i ≤ 4096) : gs_stepI (Rel i) (Rel (i + 8)) :=
  ⟨(fun μ h y0 y1 y2 y3 y4 => one_e (k_feed y0 y1 y2 y3 y4) h),
   (fun μ h y0 => one_e (k_end y0) h),
   (fun μ h y0 => one_e (k_fault y0) h),
   (fun μ h y0 => one_e (k_text y0) h),
   (fun μ h y0 y1 y2 => one_e (k_ship y0 y1 y2) h),
   (fun μ h y0 y1 y2 => one_e (k_plan y0 y1 y2) h),
   (fun μ h y0 y1 => one_e (k_set y0 y1) h),
   (fun μ h y0 y1 y2 => one_e (k_load hi y0 y1 y2) h),
   (fun μ h y0 => one_e (k_roll hi y0) h),
   (fun μ h y0 => one_e (k_day hi y0) h),
   (fun μ h y0 y1 y2 => one_e (k_column y0 y1 y2) h),
   (fun μ h y0 y1 => one_e (k_hold y0 y1) h),
   (fun μ h y0 => one_e (k_about y0) h),
   (fun μ h y0 y1 => one_e (k_goes hi y0 y1) h),
   (fun μ h => one_e (k_least hi) h),
   (fun μ h y0 y1 => one_e (k_runs hi y0 y1) h),
   (fun μ h y0 => one_e (k_ballast hi y0) h),
   (fun μ h y0 y1 => one_e (k_course y0 y1) h),
   (fun μ h y0 => one_e (k_best hi y0) h),
   (fun μ h y0 y1 => one_e (k_cost y0 y1) h),
   (fun μ h y0 y1 y2 y3 y4 => one_e (k_safe hi y0 y1 y2 y3 y4) h),
   (fun μ h y0 y1 y2 y3 y4 => one_e (k_cheapest hi y0 y1 y2 y3 y4) h),
   (fun μ h y0 y1 y2 y3 y4 y5 y6 => one_e (k_fitted hi y0 y1 y2 y3 y4 y5 y6) h),
   (fun μ h y0 => one_e (k_log y0) h),
   (fun μ h y0 y1 y2 => one_e (k_agree hi y0 y1 y2) h),
   (fun μ h y0 => one_e (k_heap y0) h),
   (fun μ h y0 y1 => one_e (k_miss y0 y1) h),
   (fun μ h y0 y1 => one_e (k_enough y0 y1) h),
   (fun μ h y0 y1 y2 y3 => one_e (k_refuse y0 y1 y2 y3) h),
   (fun μ h => one_e (k_image) h),
   (fun μ h => one_e (k_back) h),
   (fun μ h y0 y1 => one_e (k_trim hi y0 y1) h),
   (fun μ h y0 y1 y2 => one_e (k_pour hi y0 y1 y2) h),
   (fun μ h y0 y1 y2 => one_e (k_take hi y0 y1 y2) h),
   (fun μ h y0 => one_e (k_heel hi y0) h),
   (fun μ h y0 y1 y2 => one_e (k_tilt y0 y1 y2) h),
   (fun μ h y0 y1 => one_e (k_ripens hi y0 y1) h),
   (fun μ h y0 y1 => one_e (k_slide hi y0 y1) h),
   (fun μ h y0 y1 => one_e (k_port y0 y1) h),
   (fun μ h y0 y1 => one_e (k_reach hi y0 y1) h),
   (fun μ h y0 y1 y2 y3 => one_e (k_over hi y0 y1 y2 y3) h),
   (fun μ h y0 => one_e (k_soonest hi y0) h),
   (fun μ h y0 => one_e (k_book hi y0) h),
   (fun μ h y0 y1 y2 y3 y4 => one_e (k_follow hi y0 y1 y2 y3 y4) h),
   (fun μ h y0 y1 y2 => one_e (k_better hi y0 y1 y2) h),
   (fun μ h => one_e (k_rules) h),
   (fun μ h y0 => one_e (k_count y0) h)⟩
theorem Rel.w {i : Nat} {μ : gs_M} (h : Rel i μ) : Rel (i + 8) μ := RT.go h (by omega) kC.refl kM.refl
/-! the start -/
theorem f0_1 : gs_μF.1 1 1 = nI 0 ∧ gs_μF.1 78 6 = nI 0 ∧ gs_μF.1 7 3 = nI 0 ∧ gs_μF.1 7 0 = 6 ∧ gs_μF.1 78 24 = nI 0 ∧ gs_μF.1 26 1 = 0 ∧ gs_μF.1 89 80 = 0 ∧ gs_μF.1 36 1 = 0 ∧ gs_μF.1 78 36 = 0 := by decide +kernel
theorem f0_2 : gs_μF.1 10 3 = nI 0 ∧ gs_μF.1 10 0 = 3 ∧ gs_μF.1 78 25 = nI 0 ∧ gs_μF.1 13 3 = nI 0 ∧ gs_μF.1 13 0 = 6 ∧ gs_μF.1 78 26 = nI 0 := by decide +kernel
theorem f0_3 : gs_μF.1 25 0 = 400 ∧ gs_μF.1 78 27 = 400 ∧ gs_μF.1 25 1 = 0 ∧ gs_μF.1 78 28 = 0 ∧ gs_μF.1 25 2 = 25 ∧ gs_μF.1 78 29 = 25 := by decide +kernel
theorem f0_4 : gs_μF.1 66 2 = nI 0 ∧ gs_μF.1 78 41 = nI 0 ∧ gs_μF.1 69 2 = nI 0 ∧ gs_μF.1 78 48 = nI 0 ∧ gs_μF.1 0 15 = nI 0 ∧ gs_μF.1 78 43 = nI 0 ∧ gs_μF.1 73 1 = nI 0 ∧ gs_μF.1 78 45 = nI 0 ∧ gs_μF.1 16 1 = nI 0 ∧ gs_μF.1 78 7 = nI 0 := by decide +kernel
theorem rel_0 : Rel 0 gs_μF := by
  obtain ⟨a1, a2, a3, a4, a5, a6, a7, a8, a9⟩ := f0_1
  obtain ⟨b1, b2, b3, b4, b5, b6⟩ := f0_2
  obtain ⟨c1, c2, c3, c4, c5, c6⟩ := f0_3
  obtain ⟨d1, d2, d3, d4, d5, d6, d7, d8, d9, d10⟩ := f0_4
  have h400 : ((400 : Int32)).toInt = 400 := by decide
  have h25 : ((25 : Int32)).toInt = 25 := by decide
  have h0 : ((0 : Int32)).toInt = 0 := by decide
  refine ⟨⟨0, by omega, a1, a2, fun j hj => by omega⟩, ⟨0, ⟨by omega, a3, a4, a5, fun e he => by omega⟩, Or.inl ⟨a6, a7⟩, Or.inl ⟨a8, a9⟩⟩, ⟨0, by omega, b1, b2, b3, fun e he => by omega⟩, ⟨0, by omega, b4, b5, b6, fun e he => by omega⟩, ⟨⟨c1.trans c2.symm, c3.trans c4.symm, c5.trans c6.symm, ?_, ?_⟩, ?_, ?_⟩, ⟨0, by omega, d1, d2, fun k hk => by omega⟩, ⟨0, by omega, d3, d4, fun k hk => by omega⟩, ⟨0, by omega, d5, d6, fun k hk => by omega⟩, ⟨0, by omega, d7, d8, fun k hk => by omega⟩, ⟨0, by omega, d9, d10, fun k hk => by omega⟩⟩
  · rw [c2, h400]; omega
  · rw [c4, h0]; omega
  · rw [c6, h25]; omega
  · rw [c6, h25]; omega
