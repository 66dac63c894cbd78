theorem im_X11_init : Cond.instanceMethod yX11_init ∈ gs_tbl := (gs_t 26 (by decide +kernel) (by decide +kernel))
theorem im_X12_init : Cond.instanceMethod yX12_init ∈ gs_tbl := (gs_t 1114 (by decide +kernel) (by decide +kernel))
theorem gs_Z0 : gs_Z 0 gs_ρ0 gs_μ0 := fun _ _ => ⟨fun _ => rfl, fun _ => rfl, fun _ => rfl⟩
theorem law_pro {p : Program} {l : Launch} {e : Env} {s : State} {m : MethodId} {below : List Frame} {meth : Method} {c : Code} {ad : Nat → Nat} {g : va_G} {tyc : Nat → ClassId} {Q : State → Prop} (hK : KP p room_1 s m #[Value.ref (ad 118)] meth c ad g tyc "GrainShiftLaw" code 7 ret 1000 0) (kk : WJ p l e room_1 s m #[Value.ref (ad 118)] below meth c 99 3773 Q ad g tyc 7 23 (gs_pst 0) [] gs_μF) : WP p l e room_1 s m #[Value.ref (ad 118)] below meth c 0 0 Q ad g tyc 7 0 [.ref 118, gs_J, gs_J, gs_J, gs_J, gs_J, gs_J] [] 0 gs_ρ0 gs_μ0 := by
  have hZ := gs_Z0
  refine p_new (ci := 10) (C := RX11) (T := TX11) (N := 20) hK d_law_0 rfl (gs_t 23 (by decide +kernel) (by decide +kernel)) (gs_t 24 (by decide +kernel) (by decide +kernel)) (gs_t 1 (by decide +kernel) (by decide +kernel)) (by omega) (by omega) (Or.inr rfl) kd_0 hZ (by decide) (by decide) ?_
  refine WP_n (n' := 1) (by omega) ?_
  have hZ := hZ.mono (show 0 ≤ 1 by omega)
  refine p_dup hK d_law_3 rfl ?_
  refine p_call (As := []) (st := [.ref 0]) hK (I_X11_init hZ) d_law_4 mf_X11_init (Or.inl (gs_t 25 (by decide +kernel) (by decide +kernel))) im_X11_init rfl rfl (Nat.le_of_ble_eq_true rfl) (by decide) (by omega) (by omega) (by omega) ⟨by decide, by decide⟩ rfl ?_
  have hZ := z_X11_init hZ
  refine p_astore_n hK d_law_7 rfl (by decide) (ls2 := [.ref 118, .ref 0, gs_J, gs_J, gs_J, gs_J, gs_J]) rfl ?_
  refine p_new (ci := 11) (C := RX12) (T := TX12) (N := 52) hK d_law_8 rfl (gs_t 1111 (by decide +kernel) (by decide +kernel)) (gs_t 1112 (by decide +kernel) (by decide +kernel)) (gs_t 13 (by decide +kernel) (by decide +kernel)) (by omega) (by omega) (by omega) kd_78 hZ (by decide) (by decide) ?_
  refine WP_n (n' := 79) (by omega) ?_
  have hZ := hZ.mono (show 78 ≤ 79 by omega)
  refine p_dup hK d_law_11 rfl ?_
  refine p_call (As := []) (st := [.ref 78]) hK (I_X12_init hZ) d_law_12 mf_X12_init (Or.inl (gs_t 1113 (by decide +kernel) (by decide +kernel))) im_X12_init rfl rfl (Nat.le_of_ble_eq_true rfl) (by decide) (by omega) (by omega) (by omega) ⟨by decide, by decide⟩ rfl ?_
  have hZ := z_X12_init hZ
  refine p_astore_n hK d_law_15 rfl (by decide) (ls2 := [.ref 118, .ref 0, .ref 78, gs_J, gs_J, gs_J, gs_J]) rfl ?_
  refine p_iconst hK d_law_16 ci_1 ?_
  refine p_newaL (N := 1) hK d_law_17 (gs_t 1858 (by decide +kernel) (by decide +kernel)) (by decide) (by decide +kernel) (by decide) (by omega) (by omega) (by omega) kd_98 ln_98 hZ (by decide) (by decide) ?_
  refine WP_n (n' := 99) (by omega) ?_
  refine p_astore_n hK d_law_19 rfl (by decide) (ls2 := [.ref 118, .ref 0, .ref 78, .ref 98, gs_J, gs_J, gs_J]) rfl ?_
  refine p_iconst hK d_law_20 ci_0 ?_
  refine p_istore hK d_law_21 (by decide) (ls2 := gs_pst 0) rfl ?_
  exact gs_toP kk
