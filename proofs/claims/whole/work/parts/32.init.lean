theorem WP_n {p : Program} {l : Launch} {e : Env} {R : Room} {s : State} {m : MethodId} {args : Array Value} {below : List Frame} {meth : Method} {c : Code} {cells slots : Nat} {Q : State → Prop} {ad : Nat → Nat} {g : va_G} {tyc : Nat → ClassId} {nL pc n n' : Nat} {ls st : List Value} {ρ : gs_P} {μ : gs_M} (h : n = n') (k : WP p l e R s m args below meth c cells slots Q ad g tyc nL pc ls st n' ρ μ) : WP p l e R s m args below meth c cells slots Q ad g tyc nL pc ls st n ρ μ := h ▸ k
theorem vp_in_l {i : Int32} {n : Nat} (h : inb i n = true) : vp_in i n := inb_in h
def rMna (ρ : gs_P) (a N : Nat) : gs_P := fun b j => if b = a then decide (j < N) else ρ b j
theorem rMna_s {ρ : gs_P} {a N j : Nat} : rMna ρ a N a j = decide (j < N) := if_pos rfl
theorem rMna_n {ρ : gs_P} {a N b : Nat} (h : b ≠ a) : rMna ρ a N b = ρ b := funext fun j => if_neg h
theorem gs_Z.mna {n k N : Nat} {ρ : gs_P} {μ : gs_M} (h : gs_Z n ρ μ) (hk : k < n) : gs_Z n (rMna ρ k N) μ := fun b hb => by
  obtain ⟨h1, h2, h3⟩ := h b hb
  refine ⟨h1, h2, fun j => ?_⟩
  rw [rMna_n (by omega)]
  exact h3 j
theorem cb_25 : (Int8.ofInt (25)).toInt32 = 25 := by decide +kernel
theorem cb_35 : (Int8.ofInt (35)).toInt32 = 35 := by decide +kernel
theorem cb_120 : (Int8.ofInt (120)).toInt32 = 120 := by decide +kernel
theorem cs_128 : (Int16.ofInt (128)).toInt32 = 128 := by decide +kernel
theorem cs_140 : (Int16.ofInt (140)).toInt32 = 140 := by decide +kernel
theorem cs_400 : (Int16.ofInt (400)).toInt32 = 400 := by decide +kernel
theorem cs_640 : (Int16.ofInt (640)).toInt32 = 640 := by decide +kernel
theorem R0x_0_0 : R0 0 0 = 1 := by decide +kernel
theorem R0x_0_1 : R0 0 1 = 3 := by decide +kernel
theorem R0x_0_2 : R0 0 2 = 5 := by decide +kernel
theorem R0x_0_3 : R0 0 3 = 7 := by decide +kernel
theorem R0x_0_4 : R0 0 4 = 10 := by decide +kernel
theorem R0x_0_5 : R0 0 5 = 13 := by decide +kernel
theorem R0x_0_6 : R0 0 6 = 16 := by decide +kernel
theorem R0x_0_7 : R0 0 7 = 25 := by decide +kernel
theorem R0x_0_8 : R0 0 8 = 26 := by decide +kernel
theorem R0x_0_9 : R0 0 9 = 36 := by decide +kernel
theorem R0x_0_10 : R0 0 10 = 46 := by decide +kernel
theorem R0x_0_11 : R0 0 11 = 56 := by decide +kernel
theorem R0x_0_12 : R0 0 12 = 66 := by decide +kernel
theorem R0x_0_13 : R0 0 13 = 69 := by decide +kernel
theorem R0x_0_14 : R0 0 14 = 72 := by decide +kernel
theorem R0x_0_16 : R0 0 16 = 73 := by decide +kernel
theorem R0x_0_17 : R0 0 17 = 75 := by decide +kernel
theorem R0x_0_18 : R0 0 18 = 76 := by decide +kernel
theorem R0x_0_19 : R0 0 19 = 77 := by decide +kernel
theorem R0x_1_0 : R0 1 0 = 2 := by decide +kernel
theorem R0x_3_0 : R0 3 0 = 1 := by decide +kernel
theorem R0x_3_3 : R0 3 3 = 4 := by decide +kernel
theorem R0x_5_0 : R0 5 0 = 1 := by decide +kernel
theorem R0x_5_3 : R0 5 3 = 6 := by decide +kernel
theorem R0x_16_0 : R0 16 0 = 17 := by decide +kernel
theorem R0x_16_2 : R0 16 2 = 18 := by decide +kernel
theorem R0x_16_3 : R0 16 3 = 23 := by decide +kernel
theorem R0x_16_4 : R0 16 4 = 24 := by decide +kernel
theorem R0x_73_0 : R0 73 0 = 74 := by decide +kernel
theorem R0x_78_1 : R0 78 1 = 79 := by decide +kernel
theorem R0x_78_2 : R0 78 2 = 80 := by decide +kernel
theorem R0x_78_3 : R0 78 3 = 81 := by decide +kernel
theorem R0x_78_4 : R0 78 4 = 82 := by decide +kernel
theorem R0x_78_5 : R0 78 5 = 0 := by decide +kernel
theorem R0x_78_15 : R0 78 15 = 105 := by decide +kernel
theorem R0x_78_16 : R0 78 16 = 106 := by decide +kernel
theorem R0x_78_18 : R0 78 18 = 83 := by decide +kernel
theorem R0x_78_19 : R0 78 19 = 84 := by decide +kernel
theorem R0x_78_20 : R0 78 20 = 85 := by decide +kernel
theorem R0x_78_21 : R0 78 21 = 86 := by decide +kernel
theorem R0x_78_22 : R0 78 22 = 87 := by decide +kernel
theorem R0x_78_23 : R0 78 23 = 88 := by decide +kernel
theorem R0x_78_30 : R0 78 30 = 89 := by decide +kernel
theorem R0x_78_31 : R0 78 31 = 90 := by decide +kernel
theorem R0x_78_32 : R0 78 32 = 91 := by decide +kernel
theorem R0x_78_39 : R0 78 39 = 92 := by decide +kernel
theorem R0x_78_40 : R0 78 40 = 93 := by decide +kernel
theorem R0x_78_42 : R0 78 42 = 94 := by decide +kernel
theorem R0x_78_44 : R0 78 44 = 95 := by decide +kernel
theorem R0x_78_46 : R0 78 46 = 96 := by decide +kernel
theorem R0x_78_47 : R0 78 47 = 97 := by decide +kernel
theorem R0x_88_0 : R0 88 0 = 107 := by decide +kernel
theorem R0x_88_1 : R0 88 1 = 108 := by decide +kernel
theorem R0x_88_2 : R0 88 2 = 109 := by decide +kernel
theorem oi_im : Cond.instanceMethod Lib.objectInit ∈ gs_tbl := gs_t 29 (by decide +kernel) (by decide +kernel)
theorem oi_cd : Cond.code Lib.objectInit ⟨#[0xb1]⟩ 1 none ∈ gs_tbl := gs_t 30 (by decide +kernel) (by decide +kernel)
theorem ac_int : Cond.arrayClass .int ∈ gs_tbl := gs_t 45 (by decide +kernel) (by decide +kernel)
theorem ac_byte : Cond.arrayClass .byte ∈ gs_tbl := gs_t 1281 (by decide +kernel) (by decide +kernel)
theorem mo_RX1_3 : Cond.methodLink RX1 3 Lib.objectInit ∈ gs_tbl := gs_t 183 (by decide +kernel) (by decide +kernel)
theorem mf_X1_init : gs_MF yX1_init cX1_init 1 none 0 := ⟨gs_t 182 (by decide +kernel) (by decide +kernel), gs_t 10 (by decide +kernel) (by decide +kernel), by decide, by decide, by decide +kernel, by decide, by decide⟩
theorem mo_RX9_3 : Cond.methodLink RX9 3 Lib.objectInit ∈ gs_tbl := gs_t 103 (by decide +kernel) (by decide +kernel)
theorem mf_X9_init : gs_MF yX9_init cX9_init 2 none 1 := ⟨gs_t 102 (by decide +kernel) (by decide +kernel), gs_t 6 (by decide +kernel) (by decide +kernel), by decide, by decide, by decide +kernel, by decide, by decide⟩
theorem mo_RX3_3 : Cond.methodLink RX3 3 Lib.objectInit ∈ gs_tbl := gs_t 272 (by decide +kernel) (by decide +kernel)
theorem mf_X3_init : gs_MF yX3_init cX3_init 1 none 0 := ⟨gs_t 271 (by decide +kernel) (by decide +kernel), gs_t 11 (by decide +kernel) (by decide +kernel), by decide, by decide, by decide +kernel, by decide, by decide⟩
theorem mo_RX10_3 : Cond.methodLink RX10 3 Lib.objectInit ∈ gs_tbl := gs_t 176 (by decide +kernel) (by decide +kernel)
theorem kla_RX10_9 : Cond.classLink RX10 9 "GrainShift$Hold" ∈ gs_tbl := gs_t 177 (by decide +kernel) (by decide +kernel)
theorem kl_RX10_9 : Cond.classLink RX10 9 RX1 ∈ gs_tbl := gs_t 177 (by decide +kernel) (by decide +kernel)
theorem ki_1 : Cond.instantiable RX1 14 ∈ gs_tbl := gs_t 179 (by decide +kernel) (by decide +kernel)
theorem kz_1 : Cond.initialized RX1 ∈ gs_tbl := gs_t 10 (by decide +kernel) (by decide +kernel)
theorem mn_RX10_11 : Cond.methodLinkNest RX10 11 yX1_init "GrainShift" ∈ gs_nest := gs_n 180 (by decide +kernel) (by decide +kernel)
theorem im_X1_init : Cond.instanceMethod yX1_init ∈ gs_tbl := gs_t 181 (by decide +kernel) (by decide +kernel)
theorem mf_X10_init : gs_MF yX10_init cX10_init 2 none 1 := ⟨gs_t 175 (by decide +kernel) (by decide +kernel), gs_t 9 (by decide +kernel) (by decide +kernel), by decide, by decide, by decide +kernel, by decide, by decide⟩
theorem mo_RX8_3 : Cond.methodLink RX8 3 Lib.objectInit ∈ gs_tbl := gs_t 36 (by decide +kernel) (by decide +kernel)
theorem mf_X8_init : gs_MF yX8_init cX8_init 1 none 0 := ⟨gs_t 35 (by decide +kernel) (by decide +kernel), gs_t 2 (by decide +kernel) (by decide +kernel), by decide, by decide, by decide +kernel, by decide, by decide⟩
theorem mo_RX4_3 : Cond.methodLink RX4 3 Lib.objectInit ∈ gs_tbl := gs_t 54 (by decide +kernel) (by decide +kernel)
theorem mf_X4_init : gs_MF yX4_init cX4_init 2 none 1 := ⟨gs_t 53 (by decide +kernel) (by decide +kernel), gs_t 3 (by decide +kernel) (by decide +kernel), by decide, by decide, by decide +kernel, by decide, by decide⟩
theorem ml_RX2_3 : Cond.methodLink RX2 3 yX4_init ∈ gs_tbl := gs_t 51 (by decide +kernel) (by decide +kernel)
theorem im_X4_init : Cond.instanceMethod yX4_init ∈ gs_tbl := gs_t 52 (by decide +kernel) (by decide +kernel)
theorem mf_X2_init : gs_MF yX2_init cX2_init 2 none 1 := ⟨gs_t 50 (by decide +kernel) (by decide +kernel), gs_t 4 (by decide +kernel) (by decide +kernel), by decide, by decide, by decide +kernel, by decide, by decide⟩
theorem ml_RX5_3 : Cond.methodLink RX5 3 yX4_init ∈ gs_tbl := gs_t 85 (by decide +kernel) (by decide +kernel)
theorem mf_X5_init : gs_MF yX5_init cX5_init 2 none 1 := ⟨gs_t 84 (by decide +kernel) (by decide +kernel), gs_t 5 (by decide +kernel) (by decide +kernel), by decide, by decide, by decide +kernel, by decide, by decide⟩
theorem mo_RX6_3 : Cond.methodLink RX6 3 Lib.objectInit ∈ gs_tbl := gs_t 123 (by decide +kernel) (by decide +kernel)
theorem kl_RX6_19 : Cond.classLink RX6 19 "[[I" ∈ gs_tbl := gs_t 126 (by decide +kernel) (by decide +kernel)
theorem mf_X6_init : gs_MF yX6_init cX6_init 1 none 0 := ⟨gs_t 122 (by decide +kernel) (by decide +kernel), gs_t 7 (by decide +kernel) (by decide +kernel), by decide, by decide, by decide +kernel, by decide, by decide⟩
theorem mo_RX7_1 : Cond.methodLink RX7 1 Lib.objectInit ∈ gs_tbl := gs_t 154 (by decide +kernel) (by decide +kernel)
theorem fl_RX7_7_6 : gs_FL RX7 7 "GrainShift$Settings" 6 0 (RX7, TX7, 3) := ⟨rfl, by decide, gs_t 155 (by decide +kernel) (by decide +kernel), Or.inl rfl⟩
theorem fl_RX7_13_6 : gs_FL RX7 13 "GrainShift$Settings" 6 1 (RX7, TX7, 3) := ⟨rfl, by decide, gs_t 158 (by decide +kernel) (by decide +kernel), Or.inl rfl⟩
theorem fl_RX7_16_6 : gs_FL RX7 16 "GrainShift$Settings" 6 2 (RX7, TX7, 3) := ⟨rfl, by decide, gs_t 161 (by decide +kernel) (by decide +kernel), Or.inl rfl⟩
theorem mf_X7_init : gs_MF yX7_init cX7_init 1 none 0 := ⟨gs_t 153 (by decide +kernel) (by decide +kernel), gs_t 8 (by decide +kernel) (by decide +kernel), by decide, by decide, by decide +kernel, by decide, by decide⟩
theorem mo_RX0_3 : Cond.methodLink RX0 3 Lib.objectInit ∈ gs_tbl := gs_t 291 (by decide +kernel) (by decide +kernel)
theorem mf_X0_init : gs_MF yX0_init cX0_init 1 none 0 := ⟨gs_t 290 (by decide +kernel) (by decide +kernel), gs_t 12 (by decide +kernel) (by decide +kernel), by decide, by decide, by decide +kernel, by decide, by decide⟩
theorem mo_RX11_1 : Cond.methodLink RX11 1 Lib.objectInit ∈ gs_tbl := gs_t 28 (by decide +kernel) (by decide +kernel)
theorem kl_RX11_7 : Cond.classLink RX11 7 RX8 ∈ gs_tbl := gs_t 31 (by decide +kernel) (by decide +kernel)
theorem ki_7 : Cond.instantiable RX8 2 ∈ gs_tbl := gs_t 32 (by decide +kernel) (by decide +kernel)
theorem kz_7 : Cond.initialized RX8 ∈ gs_tbl := gs_t 2 (by decide +kernel) (by decide +kernel)
theorem mn_RX11_9 : Cond.methodLinkNest RX11 9 yX8_init "GrainShift" ∈ gs_nest := gs_n 33 (by decide +kernel) (by decide +kernel)
theorem im_X8_init : Cond.instanceMethod yX8_init ∈ gs_tbl := gs_t 34 (by decide +kernel) (by decide +kernel)
theorem kl_RX11_16 : Cond.classLink RX11 16 RX2 ∈ gs_tbl := gs_t 46 (by decide +kernel) (by decide +kernel)
theorem ki_2 : Cond.instantiable RX2 6 ∈ gs_tbl := gs_t 47 (by decide +kernel) (by decide +kernel)
theorem kz_2 : Cond.initialized RX2 ∈ gs_tbl := gs_t 4 (by decide +kernel) (by decide +kernel)
theorem ml_RX11_18 : Cond.methodLink RX11 18 yX2_init ∈ gs_tbl := gs_t 48 (by decide +kernel) (by decide +kernel)
theorem im_X2_init : Cond.instanceMethod yX2_init ∈ gs_tbl := gs_t 49 (by decide +kernel) (by decide +kernel)
theorem kl_RX11_25 : Cond.classLink RX11 25 RX5 ∈ gs_tbl := gs_t 80 (by decide +kernel) (by decide +kernel)
theorem ki_4 : Cond.instantiable RX5 5 ∈ gs_tbl := gs_t 81 (by decide +kernel) (by decide +kernel)
theorem kz_4 : Cond.initialized RX5 ∈ gs_tbl := gs_t 5 (by decide +kernel) (by decide +kernel)
theorem ml_RX11_27 : Cond.methodLink RX11 27 yX5_init ∈ gs_tbl := gs_t 82 (by decide +kernel) (by decide +kernel)
theorem im_X5_init : Cond.instanceMethod yX5_init ∈ gs_tbl := gs_t 83 (by decide +kernel) (by decide +kernel)
theorem kl_RX11_32 : Cond.classLink RX11 32 RX9 ∈ gs_tbl := gs_t 98 (by decide +kernel) (by decide +kernel)
theorem ki_8 : Cond.instantiable RX9 4 ∈ gs_tbl := gs_t 99 (by decide +kernel) (by decide +kernel)
theorem kz_8 : Cond.initialized RX9 ∈ gs_tbl := gs_t 6 (by decide +kernel) (by decide +kernel)
theorem ml_RX11_34 : Cond.methodLink RX11 34 yX9_init ∈ gs_tbl := gs_t 100 (by decide +kernel) (by decide +kernel)
theorem im_X9_init : Cond.instanceMethod yX9_init ∈ gs_tbl := gs_t 101 (by decide +kernel) (by decide +kernel)
theorem kl_RX11_47 : Cond.classLink RX11 47 RX6 ∈ gs_tbl := gs_t 118 (by decide +kernel) (by decide +kernel)
theorem ki_5 : Cond.instantiable RX6 6 ∈ gs_tbl := gs_t 119 (by decide +kernel) (by decide +kernel)
theorem kz_5 : Cond.initialized RX6 ∈ gs_tbl := gs_t 7 (by decide +kernel) (by decide +kernel)
theorem mn_RX11_49 : Cond.methodLinkNest RX11 49 yX6_init "GrainShift" ∈ gs_nest := gs_n 120 (by decide +kernel) (by decide +kernel)
theorem im_X6_init : Cond.instanceMethod yX6_init ∈ gs_tbl := gs_t 121 (by decide +kernel) (by decide +kernel)
theorem kl_RX11_54 : Cond.classLink RX11 54 RX7 ∈ gs_tbl := gs_t 149 (by decide +kernel) (by decide +kernel)
theorem ki_6 : Cond.instantiable RX7 3 ∈ gs_tbl := gs_t 150 (by decide +kernel) (by decide +kernel)
theorem kz_6 : Cond.initialized RX7 ∈ gs_tbl := gs_t 8 (by decide +kernel) (by decide +kernel)
theorem mn_RX11_56 : Cond.methodLinkNest RX11 56 yX7_init "GrainShift" ∈ gs_nest := gs_n 151 (by decide +kernel) (by decide +kernel)
theorem im_X7_init : Cond.instanceMethod yX7_init ∈ gs_tbl := gs_t 152 (by decide +kernel) (by decide +kernel)
theorem kl_RX11_61 : Cond.classLink RX11 61 RX10 ∈ gs_tbl := gs_t 171 (by decide +kernel) (by decide +kernel)
theorem ki_9 : Cond.instantiable RX10 7 ∈ gs_tbl := gs_t 172 (by decide +kernel) (by decide +kernel)
theorem kz_9 : Cond.initialized RX10 ∈ gs_tbl := gs_t 9 (by decide +kernel) (by decide +kernel)
theorem ml_RX11_63 : Cond.methodLink RX11 63 yX10_init ∈ gs_tbl := gs_t 173 (by decide +kernel) (by decide +kernel)
theorem im_X10_init : Cond.instanceMethod yX10_init ∈ gs_tbl := gs_t 174 (by decide +kernel) (by decide +kernel)
theorem kl_RX11_79 : Cond.classLink RX11 79 RX3 ∈ gs_tbl := gs_t 267 (by decide +kernel) (by decide +kernel)
theorem ki_3 : Cond.instantiable RX3 3 ∈ gs_tbl := gs_t 268 (by decide +kernel) (by decide +kernel)
theorem kz_3 : Cond.initialized RX3 ∈ gs_tbl := gs_t 11 (by decide +kernel) (by decide +kernel)
theorem mn_RX11_81 : Cond.methodLinkNest RX11 81 yX3_init "GrainShift" ∈ gs_nest := gs_n 269 (by decide +kernel) (by decide +kernel)
theorem im_X3_init : Cond.instanceMethod yX3_init ∈ gs_tbl := gs_t 270 (by decide +kernel) (by decide +kernel)
theorem kl_RX11_97 : Cond.classLink RX11 97 RX0 ∈ gs_tbl := gs_t 286 (by decide +kernel) (by decide +kernel)
theorem ki_0 : Cond.instantiable RX0 2 ∈ gs_tbl := gs_t 287 (by decide +kernel) (by decide +kernel)
theorem kz_0 : Cond.initialized RX0 ∈ gs_tbl := gs_t 12 (by decide +kernel) (by decide +kernel)
theorem mn_RX11_99 : Cond.methodLinkNest RX11 99 yX0_init "GrainShift" ∈ gs_nest := gs_n 288 (by decide +kernel) (by decide +kernel)
theorem im_X0_init : Cond.instanceMethod yX0_init ∈ gs_tbl := gs_t 289 (by decide +kernel) (by decide +kernel)
theorem mf_X11_init : gs_MF yX11_init cX11_init 1 none 0 := ⟨gs_t 27 (by decide +kernel) (by decide +kernel), gs_t 1 (by decide +kernel) (by decide +kernel), by decide, by decide, by decide +kernel, by decide, by decide⟩
theorem mo_RX12_3 : Cond.methodLink RX12 3 Lib.objectInit ∈ gs_tbl := gs_t 1116 (by decide +kernel) (by decide +kernel)
theorem fl_RX12_28_11 : gs_FL RX12 28 "GrainShiftModel" 11 15 (RX12, TX12, 52) := ⟨rfl, by decide, gs_t 1139 (by decide +kernel) (by decide +kernel), Or.inl rfl⟩
theorem fl_RX12_34_11 : gs_FL RX12 34 "GrainShiftModel" 11 16 (RX12, TX12, 52) := ⟨rfl, by decide, gs_t 1140 (by decide +kernel) (by decide +kernel), Or.inl rfl⟩
theorem kl_RX12_52s : Cond.classLink RX12 52 "java/lang/String" ∈ gs_tbl := gs_t 1119 (by decide +kernel) (by decide +kernel)
theorem mf_X12_init : gs_MF yX12_init cX12_init 1 none 0 := ⟨gs_t 1115 (by decide +kernel) (by decide +kernel), gs_t 13 (by decide +kernel) (by decide +kernel), by decide, by decide, by decide +kernel, by decide, by decide⟩
theorem fx_X1 : ∀ a, kd a = 1 → kd (a + 1) = 20 ∧ ln (a + 1) = 12 ∧ R0 a 0 = a + 1 := by
  have h : ∀ a, a < 99 → kd a = 1 → kd (a + 1) = 20 ∧ ln (a + 1) = 12 ∧ R0 a 0 = a + 1 := by decide +kernel
  exact fun a ha => h a (kd_lt (by omega)) ha
theorem fx_X9 : ∀ a, kd a = 8 → kd (a + 1) = 20 ∧ ln (a + 1) = 6 ∧ R0 a 1 = a + 1 ∧ kd (a + 2) = 20 ∧ ln (a + 2) = 120 ∧ R0 a 2 = a + 2 := by
  have h : ∀ a, a < 99 → kd a = 8 → kd (a + 1) = 20 ∧ ln (a + 1) = 6 ∧ R0 a 1 = a + 1 ∧ kd (a + 2) = 20 ∧ ln (a + 2) = 120 ∧ R0 a 2 = a + 2 := by decide +kernel
  exact fun a ha => h a (kd_lt (by omega)) ha
theorem fx_X3 : ∀ a, kd a = 3 → kd (a + 1) = 20 ∧ ln (a + 1) = 6 ∧ R0 a 0 = a + 1 ∧ kd (a + 2) = 20 ∧ ln (a + 2) = 6 ∧ R0 a 1 = a + 2 := by
  have h : ∀ a, a < 99 → kd a = 3 → kd (a + 1) = 20 ∧ ln (a + 1) = 6 ∧ R0 a 0 = a + 1 ∧ kd (a + 2) = 20 ∧ ln (a + 2) = 6 ∧ R0 a 1 = a + 2 := by decide +kernel
  exact fun a ha => h a (kd_lt (by omega)) ha
theorem fx_X10 : ∀ a, kd a = 9 → kd (a + 1) = 23 ∧ ln (a + 1) = 4 ∧ R0 a 0 = a + 1 ∧ R0 a 6 = 25 ∧ kd (a + 2) = 1 ∧ kd (a + 4) = 1 ∧ kd (a + 6) = 1 ∧ kd (a + 8) = 1 ∧ R0 (a + 1) 0 = a + 2 ∧ R0 (a + 1) 1 = a + 4 ∧ R0 (a + 1) 2 = a + 6 ∧ R0 (a + 1) 3 = a + 8 := by
  have h : ∀ a, a < 99 → kd a = 9 → kd (a + 1) = 23 ∧ ln (a + 1) = 4 ∧ R0 a 0 = a + 1 ∧ R0 a 6 = 25 ∧ kd (a + 2) = 1 ∧ kd (a + 4) = 1 ∧ kd (a + 6) = 1 ∧ kd (a + 8) = 1 ∧ R0 (a + 1) 0 = a + 2 ∧ R0 (a + 1) 1 = a + 4 ∧ R0 (a + 1) 2 = a + 6 ∧ R0 (a + 1) 3 = a + 8 := by decide +kernel
  exact fun a ha => h a (kd_lt (by omega)) ha
def rX1_init (ρ : gs_P) (a : Nat) : gs_P := sP (ρ) a 0
theorem z_X1_init {a : Nat} {ρ : gs_P} {μ : gs_M} (ha9 : a + 2 ≤ 99) (hZ : gs_Z (a + 1) ρ μ) : gs_Z (a + 2) (rX1_init ρ a) μ := by
  have hZ := hZ.mono (show a + 1 ≤ a + 2 by omega)
  have hZ := hZ.P (a := a) (k := 0) (by omega)
  exact hZ
theorem d_X1_init_0 : gd cX1_init 0 (.aload_n 0) 1 1 := ⟨by decide +kernel, rfl⟩
theorem d_X1_init_1 : gd cX1_init 1 (.invokespecial 3) 3 4 := ⟨by decide +kernel, rfl⟩
theorem d_X1_init_4 : gd cX1_init 4 (.aload_n 0) 1 5 := ⟨by decide +kernel, rfl⟩
theorem d_X1_init_5 : gd cX1_init 5 (.bipush 12) 2 7 := ⟨by decide +kernel, rfl⟩
theorem d_X1_init_7 : gd cX1_init 7 (.newarray .int) 2 9 := ⟨by decide +kernel, rfl⟩
theorem d_X1_init_9 : gd cX1_init 9 (.putfield 9) 3 12 := ⟨by decide +kernel, rfl⟩
theorem d_X1_init_12 : gd cX1_init 12 .return_ 1 13 := ⟨by decide +kernel, rfl⟩
set_option maxRecDepth 20000 in
theorem I_X1_init {a : Nat} {ρ : gs_P} {μ : gs_M} (hk0 : kd a = 1) (ha9 : a + 2 ≤ 99) (hZ : gs_Z (a + 1) ρ μ) : INIT yX1_init cX1_init 1 1 1 12 [.ref a] (a + 1) ρ μ (a + 2) (rX1_init ρ a) μ := by
  unfold rX1_init
  refine gs_enterP mf_X1_init rfl (Nat.le_of_ble_eq_true rfl) (ls := [.ref a]) rfl (fun p l e R s m args below meth c ad g tyc hRm hK => ?_)
  have hK : KP p R s m args meth c ad g tyc RX1 cX1_init 1 none 1 (a + 1) := hK
  refine p_aload_n hK d_X1_init_0 rfl rfl ?_
  refine p_objInit hK d_X1_init_1 mo_RX1_3 oi_im oi_cd (Nat.le_of_ble_eq_true rfl) (by decide) ?_
  refine p_aload_n hK d_X1_init_4 rfl rfl ?_
  refine p_bipush hK d_X1_init_5 cb_12 ?_
  refine p_newaI (N := 12) hK d_X1_init_7 ac_int (by decide) (by decide +kernel) (by decide) (by omega) (by omega) (by omega) ((fx_X1 _ hk0).1) ((fx_X1 _ hk0).2.1) hZ (by rw [hRm.1]; decide) (by rw [hRm.2]; decide) ?_
  refine WP_n (n' := a + 2) (by omega) ?_
  have hZ := hZ.mono (show a + 1 ≤ a + 2 by omega)
  refine p_putR hK (by omega) d_X1_init_9 fl_RX1_9_1 (fun _ => rfl) rfl hk0 (by omega) ((fx_X1 _ hk0).2.2) ?_
  have hZ := hZ.P (a := a) (k := 0) (by omega)
  exact p_vret hK d_X1_init_12
def rX9_init (ρ : gs_P) (a : Nat) : gs_P := sP (sP (ρ) a 1) a 2
def uX9_init (μ : gs_M) (a : Nat) (x1 : Int32) : gs_M := sI μ a 0 x1
theorem z_X9_init {a : Nat} {x1 : Int32} {ρ : gs_P} {μ : gs_M} (ha9 : a + 3 ≤ 99) (hZ : gs_Z (a + 1) ρ μ) : gs_Z (a + 3) (rX9_init ρ a) (uX9_init μ a x1) := by
  have hZ := hZ.mono (show a + 1 ≤ a + 2 by omega)
  have hZ := hZ.P (a := a) (k := 1) (by omega)
  have hZ := hZ.mono (show a + 2 ≤ a + 3 by omega)
  have hZ := hZ.P (a := a) (k := 2) (by omega)
  have hZ := hZ.I (a := a) (k := 0) (v := x1) (by omega)
  exact hZ
theorem d_X9_init_0 : gd cX9_init 0 (.aload_n 0) 1 1 := ⟨by decide +kernel, rfl⟩
theorem d_X9_init_1 : gd cX9_init 1 (.invokespecial 3) 3 4 := ⟨by decide +kernel, rfl⟩
theorem d_X9_init_4 : gd cX9_init 4 (.aload_n 0) 1 5 := ⟨by decide +kernel, rfl⟩
theorem d_X9_init_5 : gd cX9_init 5 (.bipush 6) 2 7 := ⟨by decide +kernel, rfl⟩
theorem d_X9_init_7 : gd cX9_init 7 (.newarray .int) 2 9 := ⟨by decide +kernel, rfl⟩
theorem d_X9_init_9 : gd cX9_init 9 (.putfield 9) 3 12 := ⟨by decide +kernel, rfl⟩
theorem d_X9_init_12 : gd cX9_init 12 (.aload_n 0) 1 13 := ⟨by decide +kernel, rfl⟩
theorem d_X9_init_13 : gd cX9_init 13 (.bipush 120) 2 15 := ⟨by decide +kernel, rfl⟩
theorem d_X9_init_15 : gd cX9_init 15 (.newarray .int) 2 17 := ⟨by decide +kernel, rfl⟩
theorem d_X9_init_17 : gd cX9_init 17 (.putfield 15) 3 20 := ⟨by decide +kernel, rfl⟩
theorem d_X9_init_20 : gd cX9_init 20 (.aload_n 0) 1 21 := ⟨by decide +kernel, rfl⟩
theorem d_X9_init_21 : gd cX9_init 21 (.iload_n 1) 1 22 := ⟨by decide +kernel, rfl⟩
theorem d_X9_init_22 : gd cX9_init 22 (.bipush 6) 2 24 := ⟨by decide +kernel, rfl⟩
theorem d_X9_init_24 : gd cX9_init 24 (.if_icmp .ge 7) 3 27 := ⟨by decide +kernel, rfl⟩
theorem d_X9_init_27 : gd cX9_init 27 (.iload_n 1) 1 28 := ⟨by decide +kernel, rfl⟩
theorem d_X9_init_28 : gd cX9_init 28 (.goto 5) 3 31 := ⟨by decide +kernel, rfl⟩
theorem d_X9_init_31 : gd cX9_init 31 (.bipush 6) 2 33 := ⟨by decide +kernel, rfl⟩
theorem d_X9_init_33 : gd cX9_init 33 (.putfield 18) 3 36 := ⟨by decide +kernel, rfl⟩
theorem d_X9_init_36 : gd cX9_init 36 .return_ 1 37 := ⟨by decide +kernel, rfl⟩
set_option maxRecDepth 20000 in
theorem I_X9_init {a : Nat} {x1 : Int32} {ρ : gs_P} {μ : gs_M} (hk0 : kd a = 8) (ha9 : a + 3 ≤ 99) (hZ : gs_Z (a + 1) ρ μ) (hx6 : (6 : Int32) ≤ x1 → x1 = 6) : INIT yX9_init cX9_init 2 1 2 126 [.ref a, .int x1] (a + 1) ρ μ (a + 3) (rX9_init ρ a) (uX9_init μ a x1) := by
  unfold rX9_init uX9_init
  refine gs_enterP mf_X9_init rfl (Nat.le_of_ble_eq_true rfl) (ls := [.ref a, .int x1]) rfl (fun p l e R s m args below meth c ad g tyc hRm hK => ?_)
  have hK : KP p R s m args meth c ad g tyc RX9 cX9_init 2 none 1 (a + 1) := hK
  refine p_aload_n hK d_X9_init_0 rfl rfl ?_
  refine p_objInit hK d_X9_init_1 mo_RX9_3 oi_im oi_cd (Nat.le_of_ble_eq_true rfl) (by decide) ?_
  refine p_aload_n hK d_X9_init_4 rfl rfl ?_
  refine p_bipush hK d_X9_init_5 cb_6 ?_
  refine p_newaI (N := 6) hK d_X9_init_7 ac_int (by decide) (by decide +kernel) (by decide) (by omega) (by omega) (by omega) ((fx_X9 _ hk0).1) ((fx_X9 _ hk0).2.1) hZ (by rw [hRm.1]; decide) (by rw [hRm.2]; decide) ?_
  refine WP_n (n' := a + 2) (by omega) ?_
  have hZ := hZ.mono (show a + 1 ≤ a + 2 by omega)
  refine p_putR hK (by omega) d_X9_init_9 fl_RX9_9_8 (fun _ => rfl) rfl hk0 (by omega) ((fx_X9 _ hk0).2.2.1) ?_
  have hZ := hZ.P (a := a) (k := 1) (by omega)
  refine p_aload_n hK d_X9_init_12 rfl rfl ?_
  refine p_bipush hK d_X9_init_13 cb_120 ?_
  refine p_newaI (N := 120) hK d_X9_init_15 ac_int (by decide) (by decide +kernel) (by decide) (by omega) (by omega) (by omega) ((fx_X9 _ hk0).2.2.2.1) ((fx_X9 _ hk0).2.2.2.2.1) hZ (by rw [hRm.1]; decide) (by rw [hRm.2]; decide) ?_
  refine WP_n (n' := a + 3) (by omega) ?_
  have hZ := hZ.mono (show a + 2 ≤ a + 3 by omega)
  refine p_putR hK (by omega) d_X9_init_17 fl_RX9_15_8 (fun _ => rfl) rfl hk0 (by omega) ((fx_X9 _ hk0).2.2.2.2.2) ?_
  have hZ := hZ.P (a := a) (k := 2) (by omega)
  refine p_aload_n hK d_X9_init_20 rfl rfl ?_
  refine p_iload_n hK d_X9_init_21 rfl rfl ?_
  refine p_bipush hK d_X9_init_22 cb_6 ?_
  refine p_icmp_ge (tgt := 31) hK d_X9_init_24 (by decide) (fun h => ?_) (fun h => ?_)
  · obtain rfl : x1 = 6 := hx6 h
    refine p_bipush hK d_X9_init_31 cb_6 ?_
    refine p_putI hK (by omega) d_X9_init_33 fl_RX9_18_8 (fun _ => rfl) rfl hk0 (by omega) ?_
    exact p_vret hK d_X9_init_36
  · refine p_iload_n hK d_X9_init_27 rfl rfl ?_
    refine p_goto (tgt := 33) hK d_X9_init_28 (by decide) ?_
    refine p_putI hK (by omega) d_X9_init_33 fl_RX9_18_8 (fun _ => rfl) rfl hk0 (by omega) ?_
    exact p_vret hK d_X9_init_36
def rX3_init (ρ : gs_P) (a : Nat) : gs_P := sP (sP (ρ) a 0) a 1
theorem z_X3_init {a : Nat} {ρ : gs_P} {μ : gs_M} (ha9 : a + 3 ≤ 99) (hZ : gs_Z (a + 1) ρ μ) : gs_Z (a + 3) (rX3_init ρ a) μ := by
  have hZ := hZ.mono (show a + 1 ≤ a + 2 by omega)
  have hZ := hZ.P (a := a) (k := 0) (by omega)
  have hZ := hZ.mono (show a + 2 ≤ a + 3 by omega)
  have hZ := hZ.P (a := a) (k := 1) (by omega)
  exact hZ
theorem d_X3_init_0 : gd cX3_init 0 (.aload_n 0) 1 1 := ⟨by decide +kernel, rfl⟩
theorem d_X3_init_1 : gd cX3_init 1 (.invokespecial 3) 3 4 := ⟨by decide +kernel, rfl⟩
theorem d_X3_init_4 : gd cX3_init 4 (.aload_n 0) 1 5 := ⟨by decide +kernel, rfl⟩
theorem d_X3_init_5 : gd cX3_init 5 (.bipush 6) 2 7 := ⟨by decide +kernel, rfl⟩
theorem d_X3_init_7 : gd cX3_init 7 (.newarray .int) 2 9 := ⟨by decide +kernel, rfl⟩
theorem d_X3_init_9 : gd cX3_init 9 (.putfield 9) 3 12 := ⟨by decide +kernel, rfl⟩
theorem d_X3_init_12 : gd cX3_init 12 (.aload_n 0) 1 13 := ⟨by decide +kernel, rfl⟩
theorem d_X3_init_13 : gd cX3_init 13 (.bipush 6) 2 15 := ⟨by decide +kernel, rfl⟩
theorem d_X3_init_15 : gd cX3_init 15 (.newarray .int) 2 17 := ⟨by decide +kernel, rfl⟩
theorem d_X3_init_17 : gd cX3_init 17 (.putfield 15) 3 20 := ⟨by decide +kernel, rfl⟩
theorem d_X3_init_20 : gd cX3_init 20 .return_ 1 21 := ⟨by decide +kernel, rfl⟩
set_option maxRecDepth 20000 in
theorem I_X3_init {a : Nat} {ρ : gs_P} {μ : gs_M} (hk0 : kd a = 3) (ha9 : a + 3 ≤ 99) (hZ : gs_Z (a + 1) ρ μ) : INIT yX3_init cX3_init 1 1 2 12 [.ref a] (a + 1) ρ μ (a + 3) (rX3_init ρ a) μ := by
  unfold rX3_init
  refine gs_enterP mf_X3_init rfl (Nat.le_of_ble_eq_true rfl) (ls := [.ref a]) rfl (fun p l e R s m args below meth c ad g tyc hRm hK => ?_)
  have hK : KP p R s m args meth c ad g tyc RX3 cX3_init 1 none 1 (a + 1) := hK
  refine p_aload_n hK d_X3_init_0 rfl rfl ?_
  refine p_objInit hK d_X3_init_1 mo_RX3_3 oi_im oi_cd (Nat.le_of_ble_eq_true rfl) (by decide) ?_
  refine p_aload_n hK d_X3_init_4 rfl rfl ?_
  refine p_bipush hK d_X3_init_5 cb_6 ?_
  refine p_newaI (N := 6) hK d_X3_init_7 ac_int (by decide) (by decide +kernel) (by decide) (by omega) (by omega) (by omega) ((fx_X3 _ hk0).1) ((fx_X3 _ hk0).2.1) hZ (by rw [hRm.1]; decide) (by rw [hRm.2]; decide) ?_
  refine WP_n (n' := a + 2) (by omega) ?_
  have hZ := hZ.mono (show a + 1 ≤ a + 2 by omega)
  refine p_putR hK (by omega) d_X3_init_9 fl_RX3_9_3 (fun _ => rfl) rfl hk0 (by omega) ((fx_X3 _ hk0).2.2.1) ?_
  have hZ := hZ.P (a := a) (k := 0) (by omega)
  refine p_aload_n hK d_X3_init_12 rfl rfl ?_
  refine p_bipush hK d_X3_init_13 cb_6 ?_
  refine p_newaI (N := 6) hK d_X3_init_15 ac_int (by decide) (by decide +kernel) (by decide) (by omega) (by omega) (by omega) ((fx_X3 _ hk0).2.2.2.1) ((fx_X3 _ hk0).2.2.2.2.1) hZ (by rw [hRm.1]; decide) (by rw [hRm.2]; decide) ?_
  refine WP_n (n' := a + 3) (by omega) ?_
  have hZ := hZ.mono (show a + 2 ≤ a + 3 by omega)
  refine p_putR hK (by omega) d_X3_init_17 fl_RX3_15_3 (fun _ => rfl) rfl hk0 (by omega) ((fx_X3 _ hk0).2.2.2.2.2) ?_
  have hZ := hZ.P (a := a) (k := 1) (by omega)
  exact p_vret hK d_X3_init_20
def rX10_init (ρ : gs_P) (a : Nat) : gs_P := sP (sP (sP (rX1_init (sP (rX1_init (sP (rX1_init (sP (rX1_init (ρ) (a + 2)) (a + 1) 0) (a + 4)) (a + 1) 1) (a + 6)) (a + 1) 2) (a + 8)) (a + 1) 3) a 0) a 6
theorem z_X10_init {a : Nat} {ρ : gs_P} {μ : gs_M} (ha9 : a + 10 ≤ 99) (hZ : gs_Z (a + 1) ρ μ) : gs_Z (a + 10) (rX10_init ρ a) μ := by
  have hZ := hZ.mono (show a + 1 ≤ a + 2 by omega)
  have hZ := hZ.mono (show a + 2 ≤ a + 3 by omega)
  have hZ := z_X1_init (a := a + 2) (by omega) hZ
  have hZ := hZ.P (a := a + 1) (k := 0) (by omega)
  have hZ := hZ.mono (show a + 4 ≤ a + 5 by omega)
  have hZ := z_X1_init (a := a + 4) (by omega) hZ
  have hZ := hZ.P (a := a + 1) (k := 1) (by omega)
  have hZ := hZ.mono (show a + 6 ≤ a + 7 by omega)
  have hZ := z_X1_init (a := a + 6) (by omega) hZ
  have hZ := hZ.P (a := a + 1) (k := 2) (by omega)
  have hZ := hZ.mono (show a + 8 ≤ a + 9 by omega)
  have hZ := z_X1_init (a := a + 8) (by omega) hZ
  have hZ := hZ.P (a := a + 1) (k := 3) (by omega)
  have hZ := hZ.P (a := a) (k := 0) (by omega)
  have hZ := hZ.P (a := a) (k := 6) (by omega)
  exact hZ
theorem d_X10_init_0 : gd cX10_init 0 (.aload_n 0) 1 1 := ⟨by decide +kernel, rfl⟩
theorem d_X10_init_1 : gd cX10_init 1 (.invokespecial 3) 3 4 := ⟨by decide +kernel, rfl⟩
theorem d_X10_init_4 : gd cX10_init 4 (.aload_n 0) 1 5 := ⟨by decide +kernel, rfl⟩
theorem d_X10_init_5 : gd cX10_init 5 (.iconst 4) 1 6 := ⟨by decide +kernel, rfl⟩
theorem d_X10_init_6 : gd cX10_init 6 (.anewarray 9) 3 9 := ⟨by decide +kernel, rfl⟩
theorem d_X10_init_9 : gd cX10_init 9 .dup 1 10 := ⟨by decide +kernel, rfl⟩
theorem d_X10_init_10 : gd cX10_init 10 (.iconst 0) 1 11 := ⟨by decide +kernel, rfl⟩
theorem d_X10_init_11 : gd cX10_init 11 (.new 9) 3 14 := ⟨by decide +kernel, rfl⟩
theorem d_X10_init_14 : gd cX10_init 14 .dup 1 15 := ⟨by decide +kernel, rfl⟩
theorem d_X10_init_15 : gd cX10_init 15 (.invokespecial 11) 3 18 := ⟨by decide +kernel, rfl⟩
theorem d_X10_init_18 : gd cX10_init 18 .aastore 1 19 := ⟨by decide +kernel, rfl⟩
theorem d_X10_init_19 : gd cX10_init 19 .dup 1 20 := ⟨by decide +kernel, rfl⟩
theorem d_X10_init_20 : gd cX10_init 20 (.iconst 1) 1 21 := ⟨by decide +kernel, rfl⟩
theorem d_X10_init_21 : gd cX10_init 21 (.new 9) 3 24 := ⟨by decide +kernel, rfl⟩
theorem d_X10_init_24 : gd cX10_init 24 .dup 1 25 := ⟨by decide +kernel, rfl⟩
theorem d_X10_init_25 : gd cX10_init 25 (.invokespecial 11) 3 28 := ⟨by decide +kernel, rfl⟩
theorem d_X10_init_28 : gd cX10_init 28 .aastore 1 29 := ⟨by decide +kernel, rfl⟩
theorem d_X10_init_29 : gd cX10_init 29 .dup 1 30 := ⟨by decide +kernel, rfl⟩
theorem d_X10_init_30 : gd cX10_init 30 (.iconst 2) 1 31 := ⟨by decide +kernel, rfl⟩
theorem d_X10_init_31 : gd cX10_init 31 (.new 9) 3 34 := ⟨by decide +kernel, rfl⟩
theorem d_X10_init_34 : gd cX10_init 34 .dup 1 35 := ⟨by decide +kernel, rfl⟩
theorem d_X10_init_35 : gd cX10_init 35 (.invokespecial 11) 3 38 := ⟨by decide +kernel, rfl⟩
theorem d_X10_init_38 : gd cX10_init 38 .aastore 1 39 := ⟨by decide +kernel, rfl⟩
theorem d_X10_init_39 : gd cX10_init 39 .dup 1 40 := ⟨by decide +kernel, rfl⟩
theorem d_X10_init_40 : gd cX10_init 40 (.iconst 3) 1 41 := ⟨by decide +kernel, rfl⟩
theorem d_X10_init_41 : gd cX10_init 41 (.new 9) 3 44 := ⟨by decide +kernel, rfl⟩
theorem d_X10_init_44 : gd cX10_init 44 .dup 1 45 := ⟨by decide +kernel, rfl⟩
theorem d_X10_init_45 : gd cX10_init 45 (.invokespecial 11) 3 48 := ⟨by decide +kernel, rfl⟩
theorem d_X10_init_48 : gd cX10_init 48 .aastore 1 49 := ⟨by decide +kernel, rfl⟩
theorem d_X10_init_49 : gd cX10_init 49 (.putfield 12) 3 52 := ⟨by decide +kernel, rfl⟩
theorem d_X10_init_52 : gd cX10_init 52 (.aload_n 0) 1 53 := ⟨by decide +kernel, rfl⟩
theorem d_X10_init_53 : gd cX10_init 53 (.aload_n 1) 1 54 := ⟨by decide +kernel, rfl⟩
theorem d_X10_init_54 : gd cX10_init 54 (.putfield 18) 3 57 := ⟨by decide +kernel, rfl⟩
theorem d_X10_init_57 : gd cX10_init 57 .return_ 1 58 := ⟨by decide +kernel, rfl⟩
set_option maxRecDepth 20000 in
theorem I_X10_init {a : Nat} {ρ : gs_P} {μ : gs_M} (hk0 : kd a = 9) (ha9 : a + 10 ≤ 99) (hZ : gs_Z (a + 1) ρ μ) : INIT yX10_init cX10_init 2 2 9 108 [.ref a, .ref 25] (a + 1) ρ μ (a + 10) (rX10_init ρ a) μ := by
  unfold rX10_init
  refine gs_enterP mf_X10_init rfl (Nat.le_of_ble_eq_true rfl) (ls := [.ref a, .ref 25]) rfl (fun p l e R s m args below meth c ad g tyc hRm hK => ?_)
  have hK : KP p R s m args meth c ad g tyc RX10 cX10_init 2 none 2 (a + 1) := hK
  refine p_aload_n hK d_X10_init_0 rfl rfl ?_
  refine p_objInit hK d_X10_init_1 mo_RX10_3 oi_im oi_cd (Nat.le_of_ble_eq_true rfl) (by decide) ?_
  refine p_aload_n hK d_X10_init_4 rfl rfl ?_
  refine p_iconst hK d_X10_init_5 ci_4 ?_
  refine p_anewH (N := 4) hK d_X10_init_6 kla_RX10_9 (by decide) (by decide +kernel) (by decide) (by omega) (by omega) (by omega) ((fx_X10 _ hk0).1) ((fx_X10 _ hk0).2.1) hZ (by rw [hRm.1]; decide) (by rw [hRm.2]; decide) ?_
  refine WP_n (n' := a + 2) (by omega) ?_
  have hZ := hZ.mono (show a + 1 ≤ a + 2 by omega)
  refine p_dup hK d_X10_init_9 rfl ?_
  refine p_iconst hK d_X10_init_10 ci_0 ?_
  refine p_new (ci := 1) (C := RX1) (T := TX1) (N := 14) hK d_X10_init_11 rfl kl_RX10_9 ki_1 kz_1 (by omega) (by omega) (by omega) ((fx_X10 _ hk0).2.2.2.2.1) hZ (by rw [hRm.1]; decide) (by rw [hRm.2]; decide) ?_
  refine WP_n (n' := a + 3) (by omega) ?_
  have hZ := hZ.mono (show a + 2 ≤ a + 3 by omega)
  refine p_dup hK d_X10_init_14 rfl ?_
  refine p_call (As := []) (st := [.ref (a + 2), .int (0 : Int32), .ref (a + 1), .ref (a + 1), .ref a]) hK (I_X1_init (a := a + 2) ((fx_X10 _ hk0).2.2.2.2.1) (by omega) hZ) d_X10_init_15 mf_X1_init (Or.inr mn_RX10_11) im_X1_init rfl rfl (Nat.le_of_ble_eq_true rfl) (by decide) (by omega) (by omega) (by omega) ⟨by rw [hRm.1]; decide, by rw [hRm.2]; decide⟩ rfl ?_
  have hZ := z_X1_init (a := a + 2)  (by omega) hZ
  refine WP_n (n' := a + 4) (by omega) ?_
  refine p_aastH (N := 4) hK (by omega) d_X10_init_18 ((fx_X10 _ hk0).1) ((fx_X10 _ hk0).2.1) (by omega) ((fx_X10 _ hk0).2.2.2.2.1) (by omega) (vp_in_l (by decide)) (k := 0) (by decide +kernel) ((fx_X10 _ hk0).2.2.2.2.2.2.2.2.1) ?_
  have hZ := hZ.P (a := a + 1) (k := 0) (by omega)
  refine p_dup hK d_X10_init_19 rfl ?_
  refine p_iconst hK d_X10_init_20 ci_1 ?_
  refine p_new (ci := 1) (C := RX1) (T := TX1) (N := 14) hK d_X10_init_21 rfl kl_RX10_9 ki_1 kz_1 (by omega) (by omega) (by omega) ((fx_X10 _ hk0).2.2.2.2.2.1) hZ (by rw [hRm.1]; decide) (by rw [hRm.2]; decide) ?_
  refine WP_n (n' := a + 5) (by omega) ?_
  have hZ := hZ.mono (show a + 4 ≤ a + 5 by omega)
  refine p_dup hK d_X10_init_24 rfl ?_
  refine p_call (As := []) (st := [.ref (a + 4), .int (1 : Int32), .ref (a + 1), .ref (a + 1), .ref a]) hK (I_X1_init (a := a + 4) ((fx_X10 _ hk0).2.2.2.2.2.1) (by omega) hZ) d_X10_init_25 mf_X1_init (Or.inr mn_RX10_11) im_X1_init rfl rfl (Nat.le_of_ble_eq_true rfl) (by decide) (by omega) (by omega) (by omega) ⟨by rw [hRm.1]; decide, by rw [hRm.2]; decide⟩ rfl ?_
  have hZ := z_X1_init (a := a + 4)  (by omega) hZ
  refine WP_n (n' := a + 6) (by omega) ?_
  refine p_aastH (N := 4) hK (by omega) d_X10_init_28 ((fx_X10 _ hk0).1) ((fx_X10 _ hk0).2.1) (by omega) ((fx_X10 _ hk0).2.2.2.2.2.1) (by omega) (vp_in_l (by decide)) (k := 1) (by decide +kernel) ((fx_X10 _ hk0).2.2.2.2.2.2.2.2.2.1) ?_
  have hZ := hZ.P (a := a + 1) (k := 1) (by omega)
  refine p_dup hK d_X10_init_29 rfl ?_
  refine p_iconst hK d_X10_init_30 ci_2 ?_
  refine p_new (ci := 1) (C := RX1) (T := TX1) (N := 14) hK d_X10_init_31 rfl kl_RX10_9 ki_1 kz_1 (by omega) (by omega) (by omega) ((fx_X10 _ hk0).2.2.2.2.2.2.1) hZ (by rw [hRm.1]; decide) (by rw [hRm.2]; decide) ?_
  refine WP_n (n' := a + 7) (by omega) ?_
  have hZ := hZ.mono (show a + 6 ≤ a + 7 by omega)
  refine p_dup hK d_X10_init_34 rfl ?_
  refine p_call (As := []) (st := [.ref (a + 6), .int (2 : Int32), .ref (a + 1), .ref (a + 1), .ref a]) hK (I_X1_init (a := a + 6) ((fx_X10 _ hk0).2.2.2.2.2.2.1) (by omega) hZ) d_X10_init_35 mf_X1_init (Or.inr mn_RX10_11) im_X1_init rfl rfl (Nat.le_of_ble_eq_true rfl) (by decide) (by omega) (by omega) (by omega) ⟨by rw [hRm.1]; decide, by rw [hRm.2]; decide⟩ rfl ?_
  have hZ := z_X1_init (a := a + 6)  (by omega) hZ
  refine WP_n (n' := a + 8) (by omega) ?_
  refine p_aastH (N := 4) hK (by omega) d_X10_init_38 ((fx_X10 _ hk0).1) ((fx_X10 _ hk0).2.1) (by omega) ((fx_X10 _ hk0).2.2.2.2.2.2.1) (by omega) (vp_in_l (by decide)) (k := 2) (by decide +kernel) ((fx_X10 _ hk0).2.2.2.2.2.2.2.2.2.2.1) ?_
  have hZ := hZ.P (a := a + 1) (k := 2) (by omega)
  refine p_dup hK d_X10_init_39 rfl ?_
  refine p_iconst hK d_X10_init_40 ci_3 ?_
  refine p_new (ci := 1) (C := RX1) (T := TX1) (N := 14) hK d_X10_init_41 rfl kl_RX10_9 ki_1 kz_1 (by omega) (by omega) (by omega) ((fx_X10 _ hk0).2.2.2.2.2.2.2.1) hZ (by rw [hRm.1]; decide) (by rw [hRm.2]; decide) ?_
  refine WP_n (n' := a + 9) (by omega) ?_
  have hZ := hZ.mono (show a + 8 ≤ a + 9 by omega)
  refine p_dup hK d_X10_init_44 rfl ?_
  refine p_call (As := []) (st := [.ref (a + 8), .int (3 : Int32), .ref (a + 1), .ref (a + 1), .ref a]) hK (I_X1_init (a := a + 8) ((fx_X10 _ hk0).2.2.2.2.2.2.2.1) (by omega) hZ) d_X10_init_45 mf_X1_init (Or.inr mn_RX10_11) im_X1_init rfl rfl (Nat.le_of_ble_eq_true rfl) (by decide) (by omega) (by omega) (by omega) ⟨by rw [hRm.1]; decide, by rw [hRm.2]; decide⟩ rfl ?_
  have hZ := z_X1_init (a := a + 8)  (by omega) hZ
  refine WP_n (n' := a + 10) (by omega) ?_
  refine p_aastH (N := 4) hK (by omega) d_X10_init_48 ((fx_X10 _ hk0).1) ((fx_X10 _ hk0).2.1) (by omega) ((fx_X10 _ hk0).2.2.2.2.2.2.2.1) (by omega) (vp_in_l (by decide)) (k := 3) (by decide +kernel) ((fx_X10 _ hk0).2.2.2.2.2.2.2.2.2.2.2) ?_
  have hZ := hZ.P (a := a + 1) (k := 3) (by omega)
  refine p_putR hK (by omega) d_X10_init_49 fl_RX10_12_9 (fun _ => rfl) rfl hk0 (by omega) ((fx_X10 _ hk0).2.2.1) ?_
  have hZ := hZ.P (a := a) (k := 0) (by omega)
  refine p_aload_n hK d_X10_init_52 rfl rfl ?_
  refine p_aload_n hK d_X10_init_53 rfl rfl ?_
  refine p_putR hK (by omega) d_X10_init_54 fl_RX10_18_9 (fun _ => rfl) rfl hk0 (by omega) ((fx_X10 _ hk0).2.2.2.1) ?_
  have hZ := hZ.P (a := a) (k := 6) (by omega)
  exact p_vret hK d_X10_init_57
def rX8_init (ρ : gs_P) : gs_P := sP (ρ) 1 0
theorem z_X8_init {ρ : gs_P} {μ : gs_M} (hZ : gs_Z (2) ρ μ) : gs_Z (3) (rX8_init ρ) μ := by
  have hZ := hZ.mono (show 2 ≤ 3 by omega)
  have hZ := hZ.P (a := 1) (k := 0) (by omega)
  exact hZ
theorem d_X8_init_0 : gd cX8_init 0 (.aload_n 0) 1 1 := ⟨by decide +kernel, rfl⟩
theorem d_X8_init_1 : gd cX8_init 1 (.invokespecial 3) 3 4 := ⟨by decide +kernel, rfl⟩
theorem d_X8_init_4 : gd cX8_init 4 (.aload_n 0) 1 5 := ⟨by decide +kernel, rfl⟩
theorem d_X8_init_5 : gd cX8_init 5 (.sipush 160) 3 8 := ⟨by decide +kernel, rfl⟩
theorem d_X8_init_8 : gd cX8_init 8 (.newarray .int) 2 10 := ⟨by decide +kernel, rfl⟩
theorem d_X8_init_10 : gd cX8_init 10 (.putfield 9) 3 13 := ⟨by decide +kernel, rfl⟩
theorem d_X8_init_13 : gd cX8_init 13 .return_ 1 14 := ⟨by decide +kernel, rfl⟩
set_option maxRecDepth 20000 in
theorem I_X8_init {ρ : gs_P} {μ : gs_M} (hZ : gs_Z (2) ρ μ) : INIT yX8_init cX8_init 1 1 1 160 [.ref 1] (2) ρ μ (3) (rX8_init ρ) μ := by
  unfold rX8_init
  refine gs_enterP mf_X8_init rfl (Nat.le_of_ble_eq_true rfl) (ls := [.ref 1]) rfl (fun p l e R s m args below meth c ad g tyc hRm hK => ?_)
  have hK : KP p R s m args meth c ad g tyc RX8 cX8_init 1 none 1 (2) := hK
  refine p_aload_n hK d_X8_init_0 rfl rfl ?_
  refine p_objInit hK d_X8_init_1 mo_RX8_3 oi_im oi_cd (Nat.le_of_ble_eq_true rfl) (by decide) ?_
  refine p_aload_n hK d_X8_init_4 rfl rfl ?_
  refine p_sipush hK d_X8_init_5 cs_160 ?_
  refine p_newaI (N := 160) hK d_X8_init_8 ac_int (by decide) (by decide +kernel) (by decide) (by omega) (by omega) (by omega) kd_2 ln_2 hZ (by rw [hRm.1]; decide) (by rw [hRm.2]; decide) ?_
  refine WP_n (n' := 3) (by omega) ?_
  have hZ := hZ.mono (show 2 ≤ 3 by omega)
  refine p_putR hK (by omega) d_X8_init_10 fl_RX8_9_7 (fun _ => rfl) rfl kd_1 (by omega) R0x_1_0 ?_
  have hZ := hZ.P (a := 1) (k := 0) (by omega)
  exact p_vret hK d_X8_init_13
def rX4_init_2 (ρ : gs_P) : gs_P := sP (ρ) 3 0
theorem z_X4_init_2 {ρ : gs_P} {μ : gs_M} (hZ : gs_Z (4) ρ μ) : gs_Z (4) (rX4_init_2 ρ) μ := by
  have hZ := hZ.P (a := 3) (k := 0) (by omega)
  exact hZ
theorem d_X4_init_0 : gd cX4_init 0 (.aload_n 0) 1 1 := ⟨by decide +kernel, rfl⟩
theorem d_X4_init_1 : gd cX4_init 1 (.invokespecial 3) 3 4 := ⟨by decide +kernel, rfl⟩
theorem d_X4_init_4 : gd cX4_init 4 (.aload_n 0) 1 5 := ⟨by decide +kernel, rfl⟩
theorem d_X4_init_5 : gd cX4_init 5 (.aload_n 1) 1 6 := ⟨by decide +kernel, rfl⟩
theorem d_X4_init_6 : gd cX4_init 6 (.putfield 9) 3 9 := ⟨by decide +kernel, rfl⟩
theorem d_X4_init_9 : gd cX4_init 9 .return_ 1 10 := ⟨by decide +kernel, rfl⟩
set_option maxRecDepth 20000 in
theorem I_X4_init_2 {ρ : gs_P} {μ : gs_M} (hZ : gs_Z (4) ρ μ) : INIT yX4_init cX4_init 2 1 0 0 [.ref 3, .ref 1] (4) ρ μ (4) (rX4_init_2 ρ) μ := by
  unfold rX4_init_2
  refine gs_enterP mf_X4_init rfl (Nat.le_of_ble_eq_true rfl) (ls := [.ref 3, .ref 1]) rfl (fun p l e R s m args below meth c ad g tyc hRm hK => ?_)
  have hK : KP p R s m args meth c ad g tyc RX4 cX4_init 2 none 1 (4) := hK
  refine p_aload_n hK d_X4_init_0 rfl rfl ?_
  refine p_objInit hK d_X4_init_1 mo_RX4_3 oi_im oi_cd (Nat.le_of_ble_eq_true rfl) (by decide) ?_
  refine p_aload_n hK d_X4_init_4 rfl rfl ?_
  refine p_aload_n hK d_X4_init_5 rfl rfl ?_
  refine p_putR hK (by omega) d_X4_init_6 fl_RX4_9_2 (fun _ => rfl) rfl kd_3 (by omega) R0x_3_0 ?_
  have hZ := hZ.P (a := 3) (k := 0) (by omega)
  exact p_vret hK d_X4_init_9
def rX2_init (ρ : gs_P) : gs_P := sP (rX4_init_2 (ρ)) 3 3
theorem z_X2_init {ρ : gs_P} {μ : gs_M} (hZ : gs_Z (4) ρ μ) : gs_Z (5) (rX2_init ρ) μ := by
  have hZ := z_X4_init_2 hZ
  have hZ := hZ.mono (show 4 ≤ 5 by omega)
  have hZ := hZ.P (a := 3) (k := 3) (by omega)
  exact hZ
theorem d_X2_init_0 : gd cX2_init 0 (.aload_n 0) 1 1 := ⟨by decide +kernel, rfl⟩
theorem d_X2_init_1 : gd cX2_init 1 (.aload_n 1) 1 2 := ⟨by decide +kernel, rfl⟩
theorem d_X2_init_2 : gd cX2_init 2 (.invokespecial 3) 3 5 := ⟨by decide +kernel, rfl⟩
theorem d_X2_init_5 : gd cX2_init 5 (.aload_n 0) 1 6 := ⟨by decide +kernel, rfl⟩
theorem d_X2_init_6 : gd cX2_init 6 (.bipush 20) 2 8 := ⟨by decide +kernel, rfl⟩
theorem d_X2_init_8 : gd cX2_init 8 (.newarray .int) 2 10 := ⟨by decide +kernel, rfl⟩
theorem d_X2_init_10 : gd cX2_init 10 (.putfield 9) 3 13 := ⟨by decide +kernel, rfl⟩
theorem d_X2_init_13 : gd cX2_init 13 .return_ 1 14 := ⟨by decide +kernel, rfl⟩
set_option maxRecDepth 20000 in
theorem I_X2_init {ρ : gs_P} {μ : gs_M} (hZ : gs_Z (4) ρ μ) : INIT yX2_init cX2_init 2 2 1 20 [.ref 3, .ref 1] (4) ρ μ (5) (rX2_init ρ) μ := by
  unfold rX2_init
  refine gs_enterP mf_X2_init rfl (Nat.le_of_ble_eq_true rfl) (ls := [.ref 3, .ref 1]) rfl (fun p l e R s m args below meth c ad g tyc hRm hK => ?_)
  have hK : KP p R s m args meth c ad g tyc RX2 cX2_init 2 none 2 (4) := hK
  refine p_aload_n hK d_X2_init_0 rfl rfl ?_
  refine p_aload_n hK d_X2_init_1 rfl rfl ?_
  refine p_call (As := [.ref 1]) (st := []) hK (I_X4_init_2 hZ) d_X2_init_2 mf_X4_init (Or.inl ml_RX2_3) im_X4_init rfl rfl (Nat.le_of_ble_eq_true rfl) (by decide) (by omega) (by omega) (by omega) ⟨by rw [hRm.1]; decide, by rw [hRm.2]; decide⟩ rfl ?_
  have hZ := z_X4_init_2 hZ
  refine WP_n (n' := 4) (by omega) ?_
  refine p_aload_n hK d_X2_init_5 rfl rfl ?_
  refine p_bipush hK d_X2_init_6 cb_20 ?_
  refine p_newaI (N := 20) hK d_X2_init_8 ac_int (by decide) (by decide +kernel) (by decide) (by omega) (by omega) (by omega) kd_4 ln_4 hZ (by rw [hRm.1]; decide) (by rw [hRm.2]; decide) ?_
  refine WP_n (n' := 5) (by omega) ?_
  have hZ := hZ.mono (show 4 ≤ 5 by omega)
  refine p_putR hK (by omega) d_X2_init_10 fl_RX2_9_2 (fun _ => rfl) rfl kd_3 (by omega) R0x_3_3 ?_
  have hZ := hZ.P (a := 3) (k := 3) (by omega)
  exact p_vret hK d_X2_init_13
def rX4_init_4 (ρ : gs_P) : gs_P := sP (ρ) 5 0
theorem z_X4_init_4 {ρ : gs_P} {μ : gs_M} (hZ : gs_Z (6) ρ μ) : gs_Z (6) (rX4_init_4 ρ) μ := by
  have hZ := hZ.P (a := 5) (k := 0) (by omega)
  exact hZ
set_option maxRecDepth 20000 in
theorem I_X4_init_4 {ρ : gs_P} {μ : gs_M} (hZ : gs_Z (6) ρ μ) : INIT yX4_init cX4_init 2 1 0 0 [.ref 5, .ref 1] (6) ρ μ (6) (rX4_init_4 ρ) μ := by
  unfold rX4_init_4
  refine gs_enterP mf_X4_init rfl (Nat.le_of_ble_eq_true rfl) (ls := [.ref 5, .ref 1]) rfl (fun p l e R s m args below meth c ad g tyc hRm hK => ?_)
  have hK : KP p R s m args meth c ad g tyc RX4 cX4_init 2 none 1 (6) := hK
  refine p_aload_n hK d_X4_init_0 rfl rfl ?_
  refine p_objInit hK d_X4_init_1 mo_RX4_3 oi_im oi_cd (Nat.le_of_ble_eq_true rfl) (by decide) ?_
  refine p_aload_n hK d_X4_init_4 rfl rfl ?_
  refine p_aload_n hK d_X4_init_5 rfl rfl ?_
  refine p_putR hK (by omega) d_X4_init_6 fl_RX4_9_4 (fun _ => rfl) rfl kd_5 (by omega) R0x_5_0 ?_
  have hZ := hZ.P (a := 5) (k := 0) (by omega)
  exact p_vret hK d_X4_init_9
def rX5_init (ρ : gs_P) : gs_P := sP (rX4_init_4 (ρ)) 5 3
theorem z_X5_init {ρ : gs_P} {μ : gs_M} (hZ : gs_Z (6) ρ μ) : gs_Z (7) (rX5_init ρ) μ := by
  have hZ := z_X4_init_4 hZ
  have hZ := hZ.mono (show 6 ≤ 7 by omega)
  have hZ := hZ.P (a := 5) (k := 3) (by omega)
  exact hZ
theorem d_X5_init_0 : gd cX5_init 0 (.aload_n 0) 1 1 := ⟨by decide +kernel, rfl⟩
theorem d_X5_init_1 : gd cX5_init 1 (.aload_n 1) 1 2 := ⟨by decide +kernel, rfl⟩
theorem d_X5_init_2 : gd cX5_init 2 (.invokespecial 3) 3 5 := ⟨by decide +kernel, rfl⟩
theorem d_X5_init_5 : gd cX5_init 5 (.aload_n 0) 1 6 := ⟨by decide +kernel, rfl⟩
theorem d_X5_init_6 : gd cX5_init 6 (.sipush 160) 3 9 := ⟨by decide +kernel, rfl⟩
theorem d_X5_init_9 : gd cX5_init 9 (.newarray .int) 2 11 := ⟨by decide +kernel, rfl⟩
theorem d_X5_init_11 : gd cX5_init 11 (.putfield 9) 3 14 := ⟨by decide +kernel, rfl⟩
theorem d_X5_init_14 : gd cX5_init 14 .return_ 1 15 := ⟨by decide +kernel, rfl⟩
set_option maxRecDepth 20000 in
theorem I_X5_init {ρ : gs_P} {μ : gs_M} (hZ : gs_Z (6) ρ μ) : INIT yX5_init cX5_init 2 2 1 160 [.ref 5, .ref 1] (6) ρ μ (7) (rX5_init ρ) μ := by
  unfold rX5_init
  refine gs_enterP mf_X5_init rfl (Nat.le_of_ble_eq_true rfl) (ls := [.ref 5, .ref 1]) rfl (fun p l e R s m args below meth c ad g tyc hRm hK => ?_)
  have hK : KP p R s m args meth c ad g tyc RX5 cX5_init 2 none 2 (6) := hK
  refine p_aload_n hK d_X5_init_0 rfl rfl ?_
  refine p_aload_n hK d_X5_init_1 rfl rfl ?_
  refine p_call (As := [.ref 1]) (st := []) hK (I_X4_init_4 hZ) d_X5_init_2 mf_X4_init (Or.inl ml_RX5_3) im_X4_init rfl rfl (Nat.le_of_ble_eq_true rfl) (by decide) (by omega) (by omega) (by omega) ⟨by rw [hRm.1]; decide, by rw [hRm.2]; decide⟩ rfl ?_
  have hZ := z_X4_init_4 hZ
  refine WP_n (n' := 6) (by omega) ?_
  refine p_aload_n hK d_X5_init_5 rfl rfl ?_
  refine p_sipush hK d_X5_init_6 cs_160 ?_
  refine p_newaI (N := 160) hK d_X5_init_9 ac_int (by decide) (by decide +kernel) (by decide) (by omega) (by omega) (by omega) kd_6 ln_6 hZ (by rw [hRm.1]; decide) (by rw [hRm.2]; decide) ?_
  refine WP_n (n' := 7) (by omega) ?_
  have hZ := hZ.mono (show 6 ≤ 7 by omega)
  refine p_putR hK (by omega) d_X5_init_11 fl_RX5_9_4 (fun _ => rfl) rfl kd_5 (by omega) R0x_5_3 ?_
  have hZ := hZ.P (a := 5) (k := 3) (by omega)
  exact p_vret hK d_X5_init_14
def rX6_init (ρ : gs_P) : gs_P := sP (sP (sP (rMna (sP (ρ) 16 0) 18 4) 16 2) 16 3) 16 4
theorem z_X6_init {ρ : gs_P} {μ : gs_M} (hZ : gs_Z (17) ρ μ) : gs_Z (25) (rX6_init ρ) μ := by
  have hZ := hZ.mono (show 17 ≤ 18 by omega)
  have hZ := hZ.P (a := 16) (k := 0) (by omega)
  have hZ := (hZ.mono (show 18 ≤ 23 by omega)).mna (k := 18) (N := 4) (by omega)
  have hZ := hZ.P (a := 16) (k := 2) (by omega)
  have hZ := hZ.mono (show 23 ≤ 24 by omega)
  have hZ := hZ.P (a := 16) (k := 3) (by omega)
  have hZ := hZ.mono (show 24 ≤ 25 by omega)
  have hZ := hZ.P (a := 16) (k := 4) (by omega)
  exact hZ
theorem d_X6_init_0 : gd cX6_init 0 (.aload_n 0) 1 1 := ⟨by decide +kernel, rfl⟩
theorem d_X6_init_1 : gd cX6_init 1 (.invokespecial 3) 3 4 := ⟨by decide +kernel, rfl⟩
theorem d_X6_init_4 : gd cX6_init 4 (.aload_n 0) 1 5 := ⟨by decide +kernel, rfl⟩
theorem d_X6_init_5 : gd cX6_init 5 (.getstatic 9) 3 8 := ⟨by decide +kernel, rfl⟩
theorem d_X6_init_8 : gd cX6_init 8 .arraylength 1 9 := ⟨by decide +kernel, rfl⟩
theorem d_X6_init_9 : gd cX6_init 9 (.newarray .int) 2 11 := ⟨by decide +kernel, rfl⟩
theorem d_X6_init_11 : gd cX6_init 11 (.putfield 13) 3 14 := ⟨by decide +kernel, rfl⟩
theorem d_X6_init_14 : gd cX6_init 14 (.aload_n 0) 1 15 := ⟨by decide +kernel, rfl⟩
theorem d_X6_init_15 : gd cX6_init 15 (.iconst 4) 1 16 := ⟨by decide +kernel, rfl⟩
theorem d_X6_init_16 : gd cX6_init 16 (.sipush 160) 3 19 := ⟨by decide +kernel, rfl⟩
theorem d_X6_init_19 : gd cX6_init 19 (.multianewarray 19 2) 4 23 := ⟨by decide +kernel, rfl⟩
theorem d_X6_init_23 : gd cX6_init 23 (.putfield 21) 3 26 := ⟨by decide +kernel, rfl⟩
theorem d_X6_init_26 : gd cX6_init 26 (.aload_n 0) 1 27 := ⟨by decide +kernel, rfl⟩
theorem d_X6_init_27 : gd cX6_init 27 (.iconst 4) 1 28 := ⟨by decide +kernel, rfl⟩
theorem d_X6_init_28 : gd cX6_init 28 (.newarray .int) 2 30 := ⟨by decide +kernel, rfl⟩
theorem d_X6_init_30 : gd cX6_init 30 (.putfield 24) 3 33 := ⟨by decide +kernel, rfl⟩
theorem d_X6_init_33 : gd cX6_init 33 (.aload_n 0) 1 34 := ⟨by decide +kernel, rfl⟩
theorem d_X6_init_34 : gd cX6_init 34 (.sipush 160) 3 37 := ⟨by decide +kernel, rfl⟩
theorem d_X6_init_37 : gd cX6_init 37 (.newarray .int) 2 39 := ⟨by decide +kernel, rfl⟩
theorem d_X6_init_39 : gd cX6_init 39 (.putfield 27) 3 42 := ⟨by decide +kernel, rfl⟩
theorem d_X6_init_42 : gd cX6_init 42 .return_ 1 43 := ⟨by decide +kernel, rfl⟩
set_option maxRecDepth 20000 in
theorem I_X6_init {ρ : gs_P} {μ : gs_M} (hZ : gs_Z (17) ρ μ) : INIT yX6_init cX6_init 1 1 8 814 [.ref 16] (17) ρ μ (25) (rX6_init ρ) μ := by
  unfold rX6_init
  refine gs_enterP mf_X6_init rfl (Nat.le_of_ble_eq_true rfl) (ls := [.ref 16]) rfl (fun p l e R s m args below meth c ad g tyc hRm hK => ?_)
  have hK : KP p R s m args meth c ad g tyc RX6 cX6_init 1 none 1 (17) := hK
  refine p_aload_n hK d_X6_init_0 rfl rfl ?_
  refine p_objInit hK d_X6_init_1 mo_RX6_3 oi_im oi_cd (Nat.le_of_ble_eq_true rfl) (by decide) ?_
  refine p_aload_n hK d_X6_init_4 rfl rfl ?_
  refine p_gets (k := 4) hK d_X6_init_5 fn_RX6_9 (fun _ _ q => q.2.2.2.2.1) ?_
  refine p_tlen (k := 4) hK d_X6_init_8 (fun _ _ q => q.2.2.2.2.1) cn_6 ?_
  refine p_newaI (N := 6) hK d_X6_init_9 ac_int (by decide) (by decide +kernel) (by decide) (by omega) (by omega) (by omega) kd_17 ln_17 hZ (by rw [hRm.1]; decide) (by rw [hRm.2]; decide) ?_
  refine WP_n (n' := 18) (by omega) ?_
  have hZ := hZ.mono (show 17 ≤ 18 by omega)
  refine p_putR hK (by omega) d_X6_init_11 fl_RX6_13_5 (fun _ => rfl) rfl kd_16 (by omega) R0x_16_0 ?_
  have hZ := hZ.P (a := 16) (k := 0) (by omega)
  refine p_aload_n hK d_X6_init_14 rfl rfl ?_
  refine p_iconst hK d_X6_init_15 ci_4 ?_
  refine p_sipush hK d_X6_init_16 cs_160 ?_
  refine p_mna (N := 4) (M := 160) (ρ2 := rMna (sP (ρ) 16 0) 18 4) hK d_X6_init_19 kl_RX6_19 ac_int (by decide) (by decide) (by decide +kernel) (by decide +kernel) (by decide) (by decide) (by omega) (by omega) (by omega) kd_18 ln_18 (by decide +kernel) hZ (fun i => rMna_s) (fun b hb => rMna_n hb) (by rw [hRm.1]; decide) (by rw [hRm.2]; decide) ?_
  refine WP_n (n' := 23) (by omega) ?_
  have hZ := (hZ.mono (show 18 ≤ 23 by omega)).mna (k := 18) (N := 4) (by omega)
  refine p_putR hK (by omega) d_X6_init_23 fl_RX6_21_5 (fun _ => rfl) rfl kd_16 (by omega) R0x_16_2 ?_
  have hZ := hZ.P (a := 16) (k := 2) (by omega)
  refine p_aload_n hK d_X6_init_26 rfl rfl ?_
  refine p_iconst hK d_X6_init_27 ci_4 ?_
  refine p_newaI (N := 4) hK d_X6_init_28 ac_int (by decide) (by decide +kernel) (by decide) (by omega) (by omega) (by omega) kd_23 ln_23 hZ (by rw [hRm.1]; decide) (by rw [hRm.2]; decide) ?_
  refine WP_n (n' := 24) (by omega) ?_
  have hZ := hZ.mono (show 23 ≤ 24 by omega)
  refine p_putR hK (by omega) d_X6_init_30 fl_RX6_24_5 (fun _ => rfl) rfl kd_16 (by omega) R0x_16_3 ?_
  have hZ := hZ.P (a := 16) (k := 3) (by omega)
  refine p_aload_n hK d_X6_init_33 rfl rfl ?_
  refine p_sipush hK d_X6_init_34 cs_160 ?_
  refine p_newaI (N := 160) hK d_X6_init_37 ac_int (by decide) (by decide +kernel) (by decide) (by omega) (by omega) (by omega) kd_24 ln_24 hZ (by rw [hRm.1]; decide) (by rw [hRm.2]; decide) ?_
  refine WP_n (n' := 25) (by omega) ?_
  have hZ := hZ.mono (show 24 ≤ 25 by omega)
  refine p_putR hK (by omega) d_X6_init_39 fl_RX6_27_5 (fun _ => rfl) rfl kd_16 (by omega) R0x_16_4 ?_
  have hZ := hZ.P (a := 16) (k := 4) (by omega)
  exact p_vret hK d_X6_init_42
def rX7_init (ρ : gs_P) : gs_P := ρ
def uX7_init (μ : gs_M) : gs_M := sI (sI (sI μ 25 0 (400 : Int32)) 25 1 (0 : Int32)) 25 2 (25 : Int32)
theorem z_X7_init {ρ : gs_P} {μ : gs_M} (hZ : gs_Z (26) ρ μ) : gs_Z (26) (rX7_init ρ) (uX7_init μ) := by
  have hZ := hZ.I (a := 25) (k := 0) (v := (400 : Int32)) (by omega)
  have hZ := hZ.I (a := 25) (k := 1) (v := (0 : Int32)) (by omega)
  have hZ := hZ.I (a := 25) (k := 2) (v := (25 : Int32)) (by omega)
  exact hZ
theorem d_X7_init_0 : gd cX7_init 0 (.aload_n 0) 1 1 := ⟨by decide +kernel, rfl⟩
theorem d_X7_init_1 : gd cX7_init 1 (.invokespecial 1) 3 4 := ⟨by decide +kernel, rfl⟩
theorem d_X7_init_4 : gd cX7_init 4 (.aload_n 0) 1 5 := ⟨by decide +kernel, rfl⟩
theorem d_X7_init_5 : gd cX7_init 5 (.sipush 400) 3 8 := ⟨by decide +kernel, rfl⟩
theorem d_X7_init_8 : gd cX7_init 8 (.putfield 7) 3 11 := ⟨by decide +kernel, rfl⟩
theorem d_X7_init_11 : gd cX7_init 11 (.aload_n 0) 1 12 := ⟨by decide +kernel, rfl⟩
theorem d_X7_init_12 : gd cX7_init 12 (.iconst 0) 1 13 := ⟨by decide +kernel, rfl⟩
theorem d_X7_init_13 : gd cX7_init 13 (.putfield 13) 3 16 := ⟨by decide +kernel, rfl⟩
theorem d_X7_init_16 : gd cX7_init 16 (.aload_n 0) 1 17 := ⟨by decide +kernel, rfl⟩
theorem d_X7_init_17 : gd cX7_init 17 (.bipush 25) 2 19 := ⟨by decide +kernel, rfl⟩
theorem d_X7_init_19 : gd cX7_init 19 (.putfield 16) 3 22 := ⟨by decide +kernel, rfl⟩
theorem d_X7_init_22 : gd cX7_init 22 .return_ 1 23 := ⟨by decide +kernel, rfl⟩
set_option maxRecDepth 20000 in
theorem I_X7_init {ρ : gs_P} {μ : gs_M} (hZ : gs_Z (26) ρ μ) : INIT yX7_init cX7_init 1 1 0 0 [.ref 25] (26) ρ μ (26) (rX7_init ρ) (uX7_init μ) := by
  unfold rX7_init uX7_init
  refine gs_enterP mf_X7_init rfl (Nat.le_of_ble_eq_true rfl) (ls := [.ref 25]) rfl (fun p l e R s m args below meth c ad g tyc hRm hK => ?_)
  have hK : KP p R s m args meth c ad g tyc RX7 cX7_init 1 none 1 (26) := hK
  refine p_aload_n hK d_X7_init_0 rfl rfl ?_
  refine p_objInit hK d_X7_init_1 mo_RX7_1 oi_im oi_cd (Nat.le_of_ble_eq_true rfl) (by decide) ?_
  refine p_aload_n hK d_X7_init_4 rfl rfl ?_
  refine p_sipush hK d_X7_init_5 cs_400 ?_
  refine p_putI hK (by omega) d_X7_init_8 fl_RX7_7_6 (fun _ => rfl) rfl kd_25 (by omega) ?_
  have hZ := hZ.I (a := 25) (k := 0) (v := (400 : Int32)) (by omega)
  refine p_aload_n hK d_X7_init_11 rfl rfl ?_
  refine p_iconst hK d_X7_init_12 ci_0 ?_
  refine p_putI hK (by omega) d_X7_init_13 fl_RX7_13_6 (fun _ => rfl) rfl kd_25 (by omega) ?_
  have hZ := hZ.I (a := 25) (k := 1) (v := (0 : Int32)) (by omega)
  refine p_aload_n hK d_X7_init_16 rfl rfl ?_
  refine p_bipush hK d_X7_init_17 cb_25 ?_
  refine p_putI hK (by omega) d_X7_init_19 fl_RX7_16_6 (fun _ => rfl) rfl kd_25 (by omega) ?_
  have hZ := hZ.I (a := 25) (k := 2) (v := (25 : Int32)) (by omega)
  exact p_vret hK d_X7_init_22
def rX0_init (ρ : gs_P) : gs_P := sP (ρ) 73 0
theorem z_X0_init {ρ : gs_P} {μ : gs_M} (hZ : gs_Z (74) ρ μ) : gs_Z (75) (rX0_init ρ) μ := by
  have hZ := hZ.mono (show 74 ≤ 75 by omega)
  have hZ := hZ.P (a := 73) (k := 0) (by omega)
  exact hZ
theorem d_X0_init_0 : gd cX0_init 0 (.aload_n 0) 1 1 := ⟨by decide +kernel, rfl⟩
theorem d_X0_init_1 : gd cX0_init 1 (.invokespecial 3) 3 4 := ⟨by decide +kernel, rfl⟩
theorem d_X0_init_4 : gd cX0_init 4 (.aload_n 0) 1 5 := ⟨by decide +kernel, rfl⟩
theorem d_X0_init_5 : gd cX0_init 5 (.bipush 60) 2 7 := ⟨by decide +kernel, rfl⟩
theorem d_X0_init_7 : gd cX0_init 7 (.newarray .int) 2 9 := ⟨by decide +kernel, rfl⟩
theorem d_X0_init_9 : gd cX0_init 9 (.putfield 9) 3 12 := ⟨by decide +kernel, rfl⟩
theorem d_X0_init_12 : gd cX0_init 12 .return_ 1 13 := ⟨by decide +kernel, rfl⟩
set_option maxRecDepth 20000 in
theorem I_X0_init {ρ : gs_P} {μ : gs_M} (hZ : gs_Z (74) ρ μ) : INIT yX0_init cX0_init 1 1 1 60 [.ref 73] (74) ρ μ (75) (rX0_init ρ) μ := by
  unfold rX0_init
  refine gs_enterP mf_X0_init rfl (Nat.le_of_ble_eq_true rfl) (ls := [.ref 73]) rfl (fun p l e R s m args below meth c ad g tyc hRm hK => ?_)
  have hK : KP p R s m args meth c ad g tyc RX0 cX0_init 1 none 1 (74) := hK
  refine p_aload_n hK d_X0_init_0 rfl rfl ?_
  refine p_objInit hK d_X0_init_1 mo_RX0_3 oi_im oi_cd (Nat.le_of_ble_eq_true rfl) (by decide) ?_
  refine p_aload_n hK d_X0_init_4 rfl rfl ?_
  refine p_bipush hK d_X0_init_5 cb_60 ?_
  refine p_newaI (N := 60) hK d_X0_init_7 ac_int (by decide) (by decide +kernel) (by decide) (by omega) (by omega) (by omega) kd_74 ln_74 hZ (by rw [hRm.1]; decide) (by rw [hRm.2]; decide) ?_
  refine WP_n (n' := 75) (by omega) ?_
  have hZ := hZ.mono (show 74 ≤ 75 by omega)
  refine p_putR hK (by omega) d_X0_init_9 fl_RX0_9_0 (fun _ => rfl) rfl kd_73 (by omega) R0x_73_0 ?_
  have hZ := hZ.P (a := 73) (k := 0) (by omega)
  exact p_vret hK d_X0_init_12
def rX11_init (ρ : gs_P) : gs_P := sP (sP (sP (sP (rX0_init (sP (sP (rX3_init (sP (rX3_init (sP (rX10_init (sP (rX10_init (sP (rX10_init (sP (rX10_init (sP (rX7_init (sP (rX6_init (sP (rX9_init (sP (rX9_init (sP (rX9_init (sP (rX5_init (sP (rX2_init (sP (rX8_init (ρ)) 0 0)) 0 1)) 0 2) 7) 0 3) 10) 0 4) 13) 0 5)) 0 6)) 0 7) 26) 0 8) 36) 0 9) 46) 0 10) 56) 0 11) 66) 0 12) 69) 0 13) 0 14)) 0 16) 0 17) 0 18) 0 19
def uX11_init (μ : gs_M) : gs_M := sI (uX7_init (uX9_init (uX9_init (uX9_init μ 7 (6 : Int32)) 10 (3 : Int32)) 13 (6 : Int32))) 0 15 (0 : Int32)
theorem z_X11_init {ρ : gs_P} {μ : gs_M} (hZ : gs_Z (1) ρ μ) : gs_Z (78) (rX11_init ρ) (uX11_init μ) := by
  have hZ := hZ.mono (show 1 ≤ 2 by omega)
  have hZ := z_X8_init hZ
  have hZ := hZ.P (a := 0) (k := 0) (by omega)
  have hZ := hZ.mono (show 3 ≤ 4 by omega)
  have hZ := z_X2_init hZ
  have hZ := hZ.P (a := 0) (k := 1) (by omega)
  have hZ := hZ.mono (show 5 ≤ 6 by omega)
  have hZ := z_X5_init hZ
  have hZ := hZ.P (a := 0) (k := 2) (by omega)
  have hZ := hZ.mono (show 7 ≤ 8 by omega)
  have hZ := z_X9_init (a := 7) (x1 := (6 : Int32)) (by omega) hZ
  have hZ := hZ.P (a := 0) (k := 3) (by omega)
  have hZ := hZ.mono (show 10 ≤ 11 by omega)
  have hZ := z_X9_init (a := 10) (x1 := (3 : Int32)) (by omega) hZ
  have hZ := hZ.P (a := 0) (k := 4) (by omega)
  have hZ := hZ.mono (show 13 ≤ 14 by omega)
  have hZ := z_X9_init (a := 13) (x1 := (6 : Int32)) (by omega) hZ
  have hZ := hZ.P (a := 0) (k := 5) (by omega)
  have hZ := hZ.mono (show 16 ≤ 17 by omega)
  have hZ := z_X6_init hZ
  have hZ := hZ.P (a := 0) (k := 6) (by omega)
  have hZ := hZ.mono (show 25 ≤ 26 by omega)
  have hZ := z_X7_init hZ
  have hZ := hZ.P (a := 0) (k := 7) (by omega)
  have hZ := hZ.mono (show 26 ≤ 27 by omega)
  have hZ := z_X10_init (a := 26) (by omega) hZ
  have hZ := hZ.P (a := 0) (k := 8) (by omega)
  have hZ := hZ.mono (show 36 ≤ 37 by omega)
  have hZ := z_X10_init (a := 36) (by omega) hZ
  have hZ := hZ.P (a := 0) (k := 9) (by omega)
  have hZ := hZ.mono (show 46 ≤ 47 by omega)
  have hZ := z_X10_init (a := 46) (by omega) hZ
  have hZ := hZ.P (a := 0) (k := 10) (by omega)
  have hZ := hZ.mono (show 56 ≤ 57 by omega)
  have hZ := z_X10_init (a := 56) (by omega) hZ
  have hZ := hZ.P (a := 0) (k := 11) (by omega)
  have hZ := hZ.mono (show 66 ≤ 67 by omega)
  have hZ := z_X3_init (a := 66) (by omega) hZ
  have hZ := hZ.P (a := 0) (k := 12) (by omega)
  have hZ := hZ.mono (show 69 ≤ 70 by omega)
  have hZ := z_X3_init (a := 69) (by omega) hZ
  have hZ := hZ.P (a := 0) (k := 13) (by omega)
  have hZ := hZ.mono (show 72 ≤ 73 by omega)
  have hZ := hZ.P (a := 0) (k := 14) (by omega)
  have hZ := hZ.I (a := 0) (k := 15) (v := (0 : Int32)) (by omega)
  have hZ := hZ.mono (show 73 ≤ 74 by omega)
  have hZ := z_X0_init hZ
  have hZ := hZ.P (a := 0) (k := 16) (by omega)
  have hZ := hZ.mono (show 75 ≤ 76 by omega)
  have hZ := hZ.P (a := 0) (k := 17) (by omega)
  have hZ := hZ.mono (show 76 ≤ 77 by omega)
  have hZ := hZ.P (a := 0) (k := 18) (by omega)
  have hZ := hZ.mono (show 77 ≤ 78 by omega)
  have hZ := hZ.P (a := 0) (k := 19) (by omega)
  exact hZ
theorem d_X11_init_0 : gd cX11_init 0 (.aload_n 0) 1 1 := ⟨by decide +kernel, rfl⟩
theorem d_X11_init_1 : gd cX11_init 1 (.invokespecial 1) 3 4 := ⟨by decide +kernel, rfl⟩
theorem d_X11_init_4 : gd cX11_init 4 (.aload_n 0) 1 5 := ⟨by decide +kernel, rfl⟩
theorem d_X11_init_5 : gd cX11_init 5 (.new 7) 3 8 := ⟨by decide +kernel, rfl⟩
theorem d_X11_init_8 : gd cX11_init 8 .dup 1 9 := ⟨by decide +kernel, rfl⟩
theorem d_X11_init_9 : gd cX11_init 9 (.invokespecial 9) 3 12 := ⟨by decide +kernel, rfl⟩
theorem d_X11_init_12 : gd cX11_init 12 (.putfield 10) 3 15 := ⟨by decide +kernel, rfl⟩
theorem d_X11_init_15 : gd cX11_init 15 (.aload_n 0) 1 16 := ⟨by decide +kernel, rfl⟩
theorem d_X11_init_16 : gd cX11_init 16 (.new 16) 3 19 := ⟨by decide +kernel, rfl⟩
theorem d_X11_init_19 : gd cX11_init 19 .dup 1 20 := ⟨by decide +kernel, rfl⟩
theorem d_X11_init_20 : gd cX11_init 20 (.aload_n 0) 1 21 := ⟨by decide +kernel, rfl⟩
theorem d_X11_init_21 : gd cX11_init 21 (.getfield 10) 3 24 := ⟨by decide +kernel, rfl⟩
theorem d_X11_init_24 : gd cX11_init 24 (.invokespecial 18) 3 27 := ⟨by decide +kernel, rfl⟩
theorem d_X11_init_27 : gd cX11_init 27 (.putfield 21) 3 30 := ⟨by decide +kernel, rfl⟩
theorem d_X11_init_30 : gd cX11_init 30 (.aload_n 0) 1 31 := ⟨by decide +kernel, rfl⟩
theorem d_X11_init_31 : gd cX11_init 31 (.new 25) 3 34 := ⟨by decide +kernel, rfl⟩
theorem d_X11_init_34 : gd cX11_init 34 .dup 1 35 := ⟨by decide +kernel, rfl⟩
theorem d_X11_init_35 : gd cX11_init 35 (.aload_n 0) 1 36 := ⟨by decide +kernel, rfl⟩
theorem d_X11_init_36 : gd cX11_init 36 (.getfield 10) 3 39 := ⟨by decide +kernel, rfl⟩
theorem d_X11_init_39 : gd cX11_init 39 (.invokespecial 27) 3 42 := ⟨by decide +kernel, rfl⟩
theorem d_X11_init_42 : gd cX11_init 42 (.putfield 28) 3 45 := ⟨by decide +kernel, rfl⟩
theorem d_X11_init_45 : gd cX11_init 45 (.aload_n 0) 1 46 := ⟨by decide +kernel, rfl⟩
theorem d_X11_init_46 : gd cX11_init 46 (.new 32) 3 49 := ⟨by decide +kernel, rfl⟩
theorem d_X11_init_49 : gd cX11_init 49 .dup 1 50 := ⟨by decide +kernel, rfl⟩
theorem d_X11_init_50 : gd cX11_init 50 (.bipush 6) 2 52 := ⟨by decide +kernel, rfl⟩
theorem d_X11_init_52 : gd cX11_init 52 (.invokespecial 34) 3 55 := ⟨by decide +kernel, rfl⟩
theorem d_X11_init_55 : gd cX11_init 55 (.putfield 37) 3 58 := ⟨by decide +kernel, rfl⟩
theorem d_X11_init_58 : gd cX11_init 58 (.aload_n 0) 1 59 := ⟨by decide +kernel, rfl⟩
theorem d_X11_init_59 : gd cX11_init 59 (.new 32) 3 62 := ⟨by decide +kernel, rfl⟩
theorem d_X11_init_62 : gd cX11_init 62 .dup 1 63 := ⟨by decide +kernel, rfl⟩
theorem d_X11_init_63 : gd cX11_init 63 (.iconst 3) 1 64 := ⟨by decide +kernel, rfl⟩
theorem d_X11_init_64 : gd cX11_init 64 (.invokespecial 34) 3 67 := ⟨by decide +kernel, rfl⟩
theorem d_X11_init_67 : gd cX11_init 67 (.putfield 41) 3 70 := ⟨by decide +kernel, rfl⟩
theorem d_X11_init_70 : gd cX11_init 70 (.aload_n 0) 1 71 := ⟨by decide +kernel, rfl⟩
theorem d_X11_init_71 : gd cX11_init 71 (.new 32) 3 74 := ⟨by decide +kernel, rfl⟩
theorem d_X11_init_74 : gd cX11_init 74 .dup 1 75 := ⟨by decide +kernel, rfl⟩
theorem d_X11_init_75 : gd cX11_init 75 (.bipush 6) 2 77 := ⟨by decide +kernel, rfl⟩
theorem d_X11_init_77 : gd cX11_init 77 (.invokespecial 34) 3 80 := ⟨by decide +kernel, rfl⟩
theorem d_X11_init_80 : gd cX11_init 80 (.putfield 44) 3 83 := ⟨by decide +kernel, rfl⟩
theorem d_X11_init_83 : gd cX11_init 83 (.aload_n 0) 1 84 := ⟨by decide +kernel, rfl⟩
theorem d_X11_init_84 : gd cX11_init 84 (.new 47) 3 87 := ⟨by decide +kernel, rfl⟩
theorem d_X11_init_87 : gd cX11_init 87 .dup 1 88 := ⟨by decide +kernel, rfl⟩
theorem d_X11_init_88 : gd cX11_init 88 (.invokespecial 49) 3 91 := ⟨by decide +kernel, rfl⟩
theorem d_X11_init_91 : gd cX11_init 91 (.putfield 50) 3 94 := ⟨by decide +kernel, rfl⟩
theorem d_X11_init_94 : gd cX11_init 94 (.aload_n 0) 1 95 := ⟨by decide +kernel, rfl⟩
theorem d_X11_init_95 : gd cX11_init 95 (.new 54) 3 98 := ⟨by decide +kernel, rfl⟩
theorem d_X11_init_98 : gd cX11_init 98 .dup 1 99 := ⟨by decide +kernel, rfl⟩
theorem d_X11_init_99 : gd cX11_init 99 (.invokespecial 56) 3 102 := ⟨by decide +kernel, rfl⟩
theorem d_X11_init_102 : gd cX11_init 102 (.putfield 57) 3 105 := ⟨by decide +kernel, rfl⟩
theorem d_X11_init_105 : gd cX11_init 105 (.aload_n 0) 1 106 := ⟨by decide +kernel, rfl⟩
theorem d_X11_init_106 : gd cX11_init 106 (.new 61) 3 109 := ⟨by decide +kernel, rfl⟩
theorem d_X11_init_109 : gd cX11_init 109 .dup 1 110 := ⟨by decide +kernel, rfl⟩
theorem d_X11_init_110 : gd cX11_init 110 (.aload_n 0) 1 111 := ⟨by decide +kernel, rfl⟩
theorem d_X11_init_111 : gd cX11_init 111 (.getfield 57) 3 114 := ⟨by decide +kernel, rfl⟩
theorem d_X11_init_114 : gd cX11_init 114 (.invokespecial 63) 3 117 := ⟨by decide +kernel, rfl⟩
theorem d_X11_init_117 : gd cX11_init 117 (.putfield 66) 3 120 := ⟨by decide +kernel, rfl⟩
theorem d_X11_init_120 : gd cX11_init 120 (.aload_n 0) 1 121 := ⟨by decide +kernel, rfl⟩
theorem d_X11_init_121 : gd cX11_init 121 (.new 61) 3 124 := ⟨by decide +kernel, rfl⟩
theorem d_X11_init_124 : gd cX11_init 124 .dup 1 125 := ⟨by decide +kernel, rfl⟩
theorem d_X11_init_125 : gd cX11_init 125 (.aload_n 0) 1 126 := ⟨by decide +kernel, rfl⟩
theorem d_X11_init_126 : gd cX11_init 126 (.getfield 57) 3 129 := ⟨by decide +kernel, rfl⟩
theorem d_X11_init_129 : gd cX11_init 129 (.invokespecial 63) 3 132 := ⟨by decide +kernel, rfl⟩
theorem d_X11_init_132 : gd cX11_init 132 (.putfield 70) 3 135 := ⟨by decide +kernel, rfl⟩
theorem d_X11_init_135 : gd cX11_init 135 (.aload_n 0) 1 136 := ⟨by decide +kernel, rfl⟩
theorem d_X11_init_136 : gd cX11_init 136 (.new 61) 3 139 := ⟨by decide +kernel, rfl⟩
theorem d_X11_init_139 : gd cX11_init 139 .dup 1 140 := ⟨by decide +kernel, rfl⟩
theorem d_X11_init_140 : gd cX11_init 140 (.aload_n 0) 1 141 := ⟨by decide +kernel, rfl⟩
theorem d_X11_init_141 : gd cX11_init 141 (.getfield 57) 3 144 := ⟨by decide +kernel, rfl⟩
theorem d_X11_init_144 : gd cX11_init 144 (.invokespecial 63) 3 147 := ⟨by decide +kernel, rfl⟩
theorem d_X11_init_147 : gd cX11_init 147 (.putfield 73) 3 150 := ⟨by decide +kernel, rfl⟩
theorem d_X11_init_150 : gd cX11_init 150 (.aload_n 0) 1 151 := ⟨by decide +kernel, rfl⟩
theorem d_X11_init_151 : gd cX11_init 151 (.new 61) 3 154 := ⟨by decide +kernel, rfl⟩
theorem d_X11_init_154 : gd cX11_init 154 .dup 1 155 := ⟨by decide +kernel, rfl⟩
theorem d_X11_init_155 : gd cX11_init 155 (.aload_n 0) 1 156 := ⟨by decide +kernel, rfl⟩
theorem d_X11_init_156 : gd cX11_init 156 (.getfield 57) 3 159 := ⟨by decide +kernel, rfl⟩
theorem d_X11_init_159 : gd cX11_init 159 (.invokespecial 63) 3 162 := ⟨by decide +kernel, rfl⟩
theorem d_X11_init_162 : gd cX11_init 162 (.putfield 76) 3 165 := ⟨by decide +kernel, rfl⟩
theorem d_X11_init_165 : gd cX11_init 165 (.aload_n 0) 1 166 := ⟨by decide +kernel, rfl⟩
theorem d_X11_init_166 : gd cX11_init 166 (.new 79) 3 169 := ⟨by decide +kernel, rfl⟩
theorem d_X11_init_169 : gd cX11_init 169 .dup 1 170 := ⟨by decide +kernel, rfl⟩
theorem d_X11_init_170 : gd cX11_init 170 (.invokespecial 81) 3 173 := ⟨by decide +kernel, rfl⟩
theorem d_X11_init_173 : gd cX11_init 173 (.putfield 82) 3 176 := ⟨by decide +kernel, rfl⟩
theorem d_X11_init_176 : gd cX11_init 176 (.aload_n 0) 1 177 := ⟨by decide +kernel, rfl⟩
theorem d_X11_init_177 : gd cX11_init 177 (.new 79) 3 180 := ⟨by decide +kernel, rfl⟩
theorem d_X11_init_180 : gd cX11_init 180 .dup 1 181 := ⟨by decide +kernel, rfl⟩
theorem d_X11_init_181 : gd cX11_init 181 (.invokespecial 81) 3 184 := ⟨by decide +kernel, rfl⟩
theorem d_X11_init_184 : gd cX11_init 184 (.putfield 86) 3 187 := ⟨by decide +kernel, rfl⟩
theorem d_X11_init_187 : gd cX11_init 187 (.aload_n 0) 1 188 := ⟨by decide +kernel, rfl⟩
theorem d_X11_init_188 : gd cX11_init 188 (.bipush 20) 2 190 := ⟨by decide +kernel, rfl⟩
theorem d_X11_init_190 : gd cX11_init 190 (.newarray .int) 2 192 := ⟨by decide +kernel, rfl⟩
theorem d_X11_init_192 : gd cX11_init 192 (.putfield 89) 3 195 := ⟨by decide +kernel, rfl⟩
theorem d_X11_init_195 : gd cX11_init 195 (.aload_n 0) 1 196 := ⟨by decide +kernel, rfl⟩
theorem d_X11_init_196 : gd cX11_init 196 (.iconst 0) 1 197 := ⟨by decide +kernel, rfl⟩
theorem d_X11_init_197 : gd cX11_init 197 (.putfield 93) 3 200 := ⟨by decide +kernel, rfl⟩
theorem d_X11_init_200 : gd cX11_init 200 (.aload_n 0) 1 201 := ⟨by decide +kernel, rfl⟩
theorem d_X11_init_201 : gd cX11_init 201 (.new 97) 3 204 := ⟨by decide +kernel, rfl⟩
theorem d_X11_init_204 : gd cX11_init 204 .dup 1 205 := ⟨by decide +kernel, rfl⟩
theorem d_X11_init_205 : gd cX11_init 205 (.invokespecial 99) 3 208 := ⟨by decide +kernel, rfl⟩
theorem d_X11_init_208 : gd cX11_init 208 (.putfield 100) 3 211 := ⟨by decide +kernel, rfl⟩
theorem d_X11_init_211 : gd cX11_init 211 (.aload_n 0) 1 212 := ⟨by decide +kernel, rfl⟩
theorem d_X11_init_212 : gd cX11_init 212 (.bipush 8) 2 214 := ⟨by decide +kernel, rfl⟩
theorem d_X11_init_214 : gd cX11_init 214 (.newarray .int) 2 216 := ⟨by decide +kernel, rfl⟩
theorem d_X11_init_216 : gd cX11_init 216 (.putfield 104) 3 219 := ⟨by decide +kernel, rfl⟩
theorem d_X11_init_219 : gd cX11_init 219 (.aload_n 0) 1 220 := ⟨by decide +kernel, rfl⟩
theorem d_X11_init_220 : gd cX11_init 220 (.iconst 3) 1 221 := ⟨by decide +kernel, rfl⟩
theorem d_X11_init_221 : gd cX11_init 221 (.newarray .int) 2 223 := ⟨by decide +kernel, rfl⟩
theorem d_X11_init_223 : gd cX11_init 223 (.putfield 107) 3 226 := ⟨by decide +kernel, rfl⟩
theorem d_X11_init_226 : gd cX11_init 226 (.aload_n 0) 1 227 := ⟨by decide +kernel, rfl⟩
theorem d_X11_init_227 : gd cX11_init 227 (.iconst 3) 1 228 := ⟨by decide +kernel, rfl⟩
theorem d_X11_init_228 : gd cX11_init 228 (.newarray .int) 2 230 := ⟨by decide +kernel, rfl⟩
theorem d_X11_init_230 : gd cX11_init 230 (.putfield 110) 3 233 := ⟨by decide +kernel, rfl⟩
theorem d_X11_init_233 : gd cX11_init 233 .return_ 1 234 := ⟨by decide +kernel, rfl⟩
set_option maxRecDepth 20000 in
theorem I_X11_init {ρ : gs_P} {μ : gs_M} (hZ : gs_Z (1) ρ μ) : INIT yX11_init cX11_init 1 3 77 2152 [.ref 0] (1) ρ μ (78) (rX11_init ρ) (uX11_init μ) := by
  unfold rX11_init uX11_init
  refine gs_enterP mf_X11_init rfl (Nat.le_of_ble_eq_true rfl) (ls := [.ref 0]) rfl (fun p l e R s m args below meth c ad g tyc hRm hK => ?_)
  have hK : KP p R s m args meth c ad g tyc RX11 cX11_init 1 none 3 (1) := hK
  refine p_aload_n hK d_X11_init_0 rfl rfl ?_
  refine p_objInit hK d_X11_init_1 mo_RX11_1 oi_im oi_cd (Nat.le_of_ble_eq_true rfl) (by decide) ?_
  refine p_aload_n hK d_X11_init_4 rfl rfl ?_
  refine p_new (ci := 7) (C := RX8) (T := TX8) (N := 2) hK d_X11_init_5 rfl kl_RX11_7 ki_7 kz_7 (by omega) (by omega) (by omega) kd_1 hZ (by rw [hRm.1]; decide) (by rw [hRm.2]; decide) ?_
  refine WP_n (n' := 2) (by omega) ?_
  have hZ := hZ.mono (show 1 ≤ 2 by omega)
  refine p_dup hK d_X11_init_8 rfl ?_
  refine p_call (As := []) (st := [.ref 1, .ref 0]) hK (I_X8_init hZ) d_X11_init_9 mf_X8_init (Or.inr mn_RX11_9) im_X8_init rfl rfl (Nat.le_of_ble_eq_true rfl) (by decide) (by omega) (by omega) (by omega) ⟨by rw [hRm.1]; decide, by rw [hRm.2]; decide⟩ rfl ?_
  have hZ := z_X8_init hZ
  refine WP_n (n' := 3) (by omega) ?_
  refine p_putR hK (by omega) d_X11_init_12 fl_RX11_10_10 (fun _ => rfl) rfl kd_0 (by omega) R0x_0_0 ?_
  have hZ := hZ.P (a := 0) (k := 0) (by omega)
  refine p_aload_n hK d_X11_init_15 rfl rfl ?_
  refine p_new (ci := 2) (C := RX2) (T := TX2) (N := 6) hK d_X11_init_16 rfl kl_RX11_16 ki_2 kz_2 (by omega) (by omega) (by omega) kd_3 hZ (by rw [hRm.1]; decide) (by rw [hRm.2]; decide) ?_
  refine WP_n (n' := 4) (by omega) ?_
  have hZ := hZ.mono (show 3 ≤ 4 by omega)
  refine p_dup hK d_X11_init_19 rfl ?_
  refine p_aload_n hK d_X11_init_20 rfl rfl ?_
  refine p_getR hK d_X11_init_21 fl_RX11_10_10 rfl kd_0 (by omega) (by simp [sP, rMna, rX1_init, rX9_init, rX3_init, rX10_init, rX8_init, rX4_init_2, rX2_init, rX4_init_4, rX5_init, rX6_init, rX7_init, rX0_init]) (b := 1) R0x_0_0 ?_
  refine p_call (As := [.ref 1]) (st := [.ref 3, .ref 0]) hK (I_X2_init hZ) d_X11_init_24 mf_X2_init (Or.inl ml_RX11_18) im_X2_init rfl rfl (Nat.le_of_ble_eq_true rfl) (by decide) (by omega) (by omega) (by omega) ⟨by rw [hRm.1]; decide, by rw [hRm.2]; decide⟩ rfl ?_
  have hZ := z_X2_init hZ
  refine WP_n (n' := 5) (by omega) ?_
  refine p_putR hK (by omega) d_X11_init_27 fl_RX11_21_10 (fun _ => rfl) rfl kd_0 (by omega) R0x_0_1 ?_
  have hZ := hZ.P (a := 0) (k := 1) (by omega)
  refine p_aload_n hK d_X11_init_30 rfl rfl ?_
  refine p_new (ci := 4) (C := RX5) (T := TX5) (N := 5) hK d_X11_init_31 rfl kl_RX11_25 ki_4 kz_4 (by omega) (by omega) (by omega) kd_5 hZ (by rw [hRm.1]; decide) (by rw [hRm.2]; decide) ?_
  refine WP_n (n' := 6) (by omega) ?_
  have hZ := hZ.mono (show 5 ≤ 6 by omega)
  refine p_dup hK d_X11_init_34 rfl ?_
  refine p_aload_n hK d_X11_init_35 rfl rfl ?_
  refine p_getR hK d_X11_init_36 fl_RX11_10_10 rfl kd_0 (by omega) (by simp [sP, rMna, rX1_init, rX9_init, rX3_init, rX10_init, rX8_init, rX4_init_2, rX2_init, rX4_init_4, rX5_init, rX6_init, rX7_init, rX0_init]) (b := 1) R0x_0_0 ?_
  refine p_call (As := [.ref 1]) (st := [.ref 5, .ref 0]) hK (I_X5_init hZ) d_X11_init_39 mf_X5_init (Or.inl ml_RX11_27) im_X5_init rfl rfl (Nat.le_of_ble_eq_true rfl) (by decide) (by omega) (by omega) (by omega) ⟨by rw [hRm.1]; decide, by rw [hRm.2]; decide⟩ rfl ?_
  have hZ := z_X5_init hZ
  refine WP_n (n' := 7) (by omega) ?_
  refine p_putR hK (by omega) d_X11_init_42 fl_RX11_28_10 (fun _ => rfl) rfl kd_0 (by omega) R0x_0_2 ?_
  have hZ := hZ.P (a := 0) (k := 2) (by omega)
  refine p_aload_n hK d_X11_init_45 rfl rfl ?_
  refine p_new (ci := 8) (C := RX9) (T := TX9) (N := 4) hK d_X11_init_46 rfl kl_RX11_32 ki_8 kz_8 (by omega) (by omega) (by omega) kd_7 hZ (by rw [hRm.1]; decide) (by rw [hRm.2]; decide) ?_
  refine WP_n (n' := 8) (by omega) ?_
  have hZ := hZ.mono (show 7 ≤ 8 by omega)
  refine p_dup hK d_X11_init_49 rfl ?_
  refine p_bipush hK d_X11_init_50 cb_6 ?_
  refine p_call (As := [.int (6 : Int32)]) (st := [.ref 7, .ref 0]) hK (I_X9_init (a := 7) kd_7 (by omega) hZ (by decide)) d_X11_init_52 mf_X9_init (Or.inl ml_RX11_34) im_X9_init rfl rfl (Nat.le_of_ble_eq_true rfl) (by decide) (by omega) (by omega) (by omega) ⟨by rw [hRm.1]; decide, by rw [hRm.2]; decide⟩ rfl ?_
  have hZ := z_X9_init (a := 7) (x1 := (6 : Int32))  (by omega) hZ
  refine WP_n (n' := 10) (by omega) ?_
  refine p_putR hK (by omega) d_X11_init_55 fl_RX11_37_10 (fun _ => rfl) rfl kd_0 (by omega) R0x_0_3 ?_
  have hZ := hZ.P (a := 0) (k := 3) (by omega)
  refine p_aload_n hK d_X11_init_58 rfl rfl ?_
  refine p_new (ci := 8) (C := RX9) (T := TX9) (N := 4) hK d_X11_init_59 rfl kl_RX11_32 ki_8 kz_8 (by omega) (by omega) (by omega) kd_10 hZ (by rw [hRm.1]; decide) (by rw [hRm.2]; decide) ?_
  refine WP_n (n' := 11) (by omega) ?_
  have hZ := hZ.mono (show 10 ≤ 11 by omega)
  refine p_dup hK d_X11_init_62 rfl ?_
  refine p_iconst hK d_X11_init_63 ci_3 ?_
  refine p_call (As := [.int (3 : Int32)]) (st := [.ref 10, .ref 0]) hK (I_X9_init (a := 10) kd_10 (by omega) hZ (by decide)) d_X11_init_64 mf_X9_init (Or.inl ml_RX11_34) im_X9_init rfl rfl (Nat.le_of_ble_eq_true rfl) (by decide) (by omega) (by omega) (by omega) ⟨by rw [hRm.1]; decide, by rw [hRm.2]; decide⟩ rfl ?_
  have hZ := z_X9_init (a := 10) (x1 := (3 : Int32))  (by omega) hZ
  refine WP_n (n' := 13) (by omega) ?_
  refine p_putR hK (by omega) d_X11_init_67 fl_RX11_41_10 (fun _ => rfl) rfl kd_0 (by omega) R0x_0_4 ?_
  have hZ := hZ.P (a := 0) (k := 4) (by omega)
  refine p_aload_n hK d_X11_init_70 rfl rfl ?_
  refine p_new (ci := 8) (C := RX9) (T := TX9) (N := 4) hK d_X11_init_71 rfl kl_RX11_32 ki_8 kz_8 (by omega) (by omega) (by omega) kd_13 hZ (by rw [hRm.1]; decide) (by rw [hRm.2]; decide) ?_
  refine WP_n (n' := 14) (by omega) ?_
  have hZ := hZ.mono (show 13 ≤ 14 by omega)
  refine p_dup hK d_X11_init_74 rfl ?_
  refine p_bipush hK d_X11_init_75 cb_6 ?_
  refine p_call (As := [.int (6 : Int32)]) (st := [.ref 13, .ref 0]) hK (I_X9_init (a := 13) kd_13 (by omega) hZ (by decide)) d_X11_init_77 mf_X9_init (Or.inl ml_RX11_34) im_X9_init rfl rfl (Nat.le_of_ble_eq_true rfl) (by decide) (by omega) (by omega) (by omega) ⟨by rw [hRm.1]; decide, by rw [hRm.2]; decide⟩ rfl ?_
  have hZ := z_X9_init (a := 13) (x1 := (6 : Int32))  (by omega) hZ
  refine WP_n (n' := 16) (by omega) ?_
  refine p_putR hK (by omega) d_X11_init_80 fl_RX11_44_10 (fun _ => rfl) rfl kd_0 (by omega) R0x_0_5 ?_
  have hZ := hZ.P (a := 0) (k := 5) (by omega)
  refine p_aload_n hK d_X11_init_83 rfl rfl ?_
  refine p_new (ci := 5) (C := RX6) (T := TX6) (N := 6) hK d_X11_init_84 rfl kl_RX11_47 ki_5 kz_5 (by omega) (by omega) (by omega) kd_16 hZ (by rw [hRm.1]; decide) (by rw [hRm.2]; decide) ?_
  refine WP_n (n' := 17) (by omega) ?_
  have hZ := hZ.mono (show 16 ≤ 17 by omega)
  refine p_dup hK d_X11_init_87 rfl ?_
  refine p_call (As := []) (st := [.ref 16, .ref 0]) hK (I_X6_init hZ) d_X11_init_88 mf_X6_init (Or.inr mn_RX11_49) im_X6_init rfl rfl (Nat.le_of_ble_eq_true rfl) (by decide) (by omega) (by omega) (by omega) ⟨by rw [hRm.1]; decide, by rw [hRm.2]; decide⟩ rfl ?_
  have hZ := z_X6_init hZ
  refine WP_n (n' := 25) (by omega) ?_
  refine p_putR hK (by omega) d_X11_init_91 fl_RX11_50_10 (fun _ => rfl) rfl kd_0 (by omega) R0x_0_6 ?_
  have hZ := hZ.P (a := 0) (k := 6) (by omega)
  refine p_aload_n hK d_X11_init_94 rfl rfl ?_
  refine p_new (ci := 6) (C := RX7) (T := TX7) (N := 3) hK d_X11_init_95 rfl kl_RX11_54 ki_6 kz_6 (by omega) (by omega) (by omega) kd_25 hZ (by rw [hRm.1]; decide) (by rw [hRm.2]; decide) ?_
  refine WP_n (n' := 26) (by omega) ?_
  have hZ := hZ.mono (show 25 ≤ 26 by omega)
  refine p_dup hK d_X11_init_98 rfl ?_
  refine p_call (As := []) (st := [.ref 25, .ref 0]) hK (I_X7_init hZ) d_X11_init_99 mf_X7_init (Or.inr mn_RX11_56) im_X7_init rfl rfl (Nat.le_of_ble_eq_true rfl) (by decide) (by omega) (by omega) (by omega) ⟨by rw [hRm.1]; decide, by rw [hRm.2]; decide⟩ rfl ?_
  have hZ := z_X7_init hZ
  refine WP_n (n' := 26) (by omega) ?_
  refine p_putR hK (by omega) d_X11_init_102 fl_RX11_57_10 (fun _ => rfl) rfl kd_0 (by omega) R0x_0_7 ?_
  have hZ := hZ.P (a := 0) (k := 7) (by omega)
  refine p_aload_n hK d_X11_init_105 rfl rfl ?_
  refine p_new (ci := 9) (C := RX10) (T := TX10) (N := 7) hK d_X11_init_106 rfl kl_RX11_61 ki_9 kz_9 (by omega) (by omega) (by omega) kd_26 hZ (by rw [hRm.1]; decide) (by rw [hRm.2]; decide) ?_
  refine WP_n (n' := 27) (by omega) ?_
  have hZ := hZ.mono (show 26 ≤ 27 by omega)
  refine p_dup hK d_X11_init_109 rfl ?_
  refine p_aload_n hK d_X11_init_110 rfl rfl ?_
  refine p_getR hK d_X11_init_111 fl_RX11_57_10 rfl kd_0 (by omega) (by simp [sP, rMna, rX1_init, rX9_init, rX3_init, rX10_init, rX8_init, rX4_init_2, rX2_init, rX4_init_4, rX5_init, rX6_init, rX7_init, rX0_init]) (b := 25) R0x_0_7 ?_
  refine p_call (As := [.ref 25]) (st := [.ref 26, .ref 0]) hK (I_X10_init (a := 26) kd_26 (by omega) hZ) d_X11_init_114 mf_X10_init (Or.inl ml_RX11_63) im_X10_init rfl rfl (Nat.le_of_ble_eq_true rfl) (by decide) (by omega) (by omega) (by omega) ⟨by rw [hRm.1]; decide, by rw [hRm.2]; decide⟩ rfl ?_
  have hZ := z_X10_init (a := 26)  (by omega) hZ
  refine WP_n (n' := 36) (by omega) ?_
  refine p_putR hK (by omega) d_X11_init_117 fl_RX11_66_10 (fun _ => rfl) rfl kd_0 (by omega) R0x_0_8 ?_
  have hZ := hZ.P (a := 0) (k := 8) (by omega)
  refine p_aload_n hK d_X11_init_120 rfl rfl ?_
  refine p_new (ci := 9) (C := RX10) (T := TX10) (N := 7) hK d_X11_init_121 rfl kl_RX11_61 ki_9 kz_9 (by omega) (by omega) (by omega) kd_36 hZ (by rw [hRm.1]; decide) (by rw [hRm.2]; decide) ?_
  refine WP_n (n' := 37) (by omega) ?_
  have hZ := hZ.mono (show 36 ≤ 37 by omega)
  refine p_dup hK d_X11_init_124 rfl ?_
  refine p_aload_n hK d_X11_init_125 rfl rfl ?_
  refine p_getR hK d_X11_init_126 fl_RX11_57_10 rfl kd_0 (by omega) (by simp [sP, rMna, rX1_init, rX9_init, rX3_init, rX10_init, rX8_init, rX4_init_2, rX2_init, rX4_init_4, rX5_init, rX6_init, rX7_init, rX0_init]) (b := 25) R0x_0_7 ?_
  refine p_call (As := [.ref 25]) (st := [.ref 36, .ref 0]) hK (I_X10_init (a := 36) kd_36 (by omega) hZ) d_X11_init_129 mf_X10_init (Or.inl ml_RX11_63) im_X10_init rfl rfl (Nat.le_of_ble_eq_true rfl) (by decide) (by omega) (by omega) (by omega) ⟨by rw [hRm.1]; decide, by rw [hRm.2]; decide⟩ rfl ?_
  have hZ := z_X10_init (a := 36)  (by omega) hZ
  refine WP_n (n' := 46) (by omega) ?_
  refine p_putR hK (by omega) d_X11_init_132 fl_RX11_70_10 (fun _ => rfl) rfl kd_0 (by omega) R0x_0_9 ?_
  have hZ := hZ.P (a := 0) (k := 9) (by omega)
  refine p_aload_n hK d_X11_init_135 rfl rfl ?_
  refine p_new (ci := 9) (C := RX10) (T := TX10) (N := 7) hK d_X11_init_136 rfl kl_RX11_61 ki_9 kz_9 (by omega) (by omega) (by omega) kd_46 hZ (by rw [hRm.1]; decide) (by rw [hRm.2]; decide) ?_
  refine WP_n (n' := 47) (by omega) ?_
  have hZ := hZ.mono (show 46 ≤ 47 by omega)
  refine p_dup hK d_X11_init_139 rfl ?_
  refine p_aload_n hK d_X11_init_140 rfl rfl ?_
  refine p_getR hK d_X11_init_141 fl_RX11_57_10 rfl kd_0 (by omega) (by simp [sP, rMna, rX1_init, rX9_init, rX3_init, rX10_init, rX8_init, rX4_init_2, rX2_init, rX4_init_4, rX5_init, rX6_init, rX7_init, rX0_init]) (b := 25) R0x_0_7 ?_
  refine p_call (As := [.ref 25]) (st := [.ref 46, .ref 0]) hK (I_X10_init (a := 46) kd_46 (by omega) hZ) d_X11_init_144 mf_X10_init (Or.inl ml_RX11_63) im_X10_init rfl rfl (Nat.le_of_ble_eq_true rfl) (by decide) (by omega) (by omega) (by omega) ⟨by rw [hRm.1]; decide, by rw [hRm.2]; decide⟩ rfl ?_
  have hZ := z_X10_init (a := 46)  (by omega) hZ
  refine WP_n (n' := 56) (by omega) ?_
  refine p_putR hK (by omega) d_X11_init_147 fl_RX11_73_10 (fun _ => rfl) rfl kd_0 (by omega) R0x_0_10 ?_
  have hZ := hZ.P (a := 0) (k := 10) (by omega)
  refine p_aload_n hK d_X11_init_150 rfl rfl ?_
  refine p_new (ci := 9) (C := RX10) (T := TX10) (N := 7) hK d_X11_init_151 rfl kl_RX11_61 ki_9 kz_9 (by omega) (by omega) (by omega) kd_56 hZ (by rw [hRm.1]; decide) (by rw [hRm.2]; decide) ?_
  refine WP_n (n' := 57) (by omega) ?_
  have hZ := hZ.mono (show 56 ≤ 57 by omega)
  refine p_dup hK d_X11_init_154 rfl ?_
  refine p_aload_n hK d_X11_init_155 rfl rfl ?_
  refine p_getR hK d_X11_init_156 fl_RX11_57_10 rfl kd_0 (by omega) (by simp [sP, rMna, rX1_init, rX9_init, rX3_init, rX10_init, rX8_init, rX4_init_2, rX2_init, rX4_init_4, rX5_init, rX6_init, rX7_init, rX0_init]) (b := 25) R0x_0_7 ?_
  refine p_call (As := [.ref 25]) (st := [.ref 56, .ref 0]) hK (I_X10_init (a := 56) kd_56 (by omega) hZ) d_X11_init_159 mf_X10_init (Or.inl ml_RX11_63) im_X10_init rfl rfl (Nat.le_of_ble_eq_true rfl) (by decide) (by omega) (by omega) (by omega) ⟨by rw [hRm.1]; decide, by rw [hRm.2]; decide⟩ rfl ?_
  have hZ := z_X10_init (a := 56)  (by omega) hZ
  refine WP_n (n' := 66) (by omega) ?_
  refine p_putR hK (by omega) d_X11_init_162 fl_RX11_76_10 (fun _ => rfl) rfl kd_0 (by omega) R0x_0_11 ?_
  have hZ := hZ.P (a := 0) (k := 11) (by omega)
  refine p_aload_n hK d_X11_init_165 rfl rfl ?_
  refine p_new (ci := 3) (C := RX3) (T := TX3) (N := 3) hK d_X11_init_166 rfl kl_RX11_79 ki_3 kz_3 (by omega) (by omega) (by omega) kd_66 hZ (by rw [hRm.1]; decide) (by rw [hRm.2]; decide) ?_
  refine WP_n (n' := 67) (by omega) ?_
  have hZ := hZ.mono (show 66 ≤ 67 by omega)
  refine p_dup hK d_X11_init_169 rfl ?_
  refine p_call (As := []) (st := [.ref 66, .ref 0]) hK (I_X3_init (a := 66) kd_66 (by omega) hZ) d_X11_init_170 mf_X3_init (Or.inr mn_RX11_81) im_X3_init rfl rfl (Nat.le_of_ble_eq_true rfl) (by decide) (by omega) (by omega) (by omega) ⟨by rw [hRm.1]; decide, by rw [hRm.2]; decide⟩ rfl ?_
  have hZ := z_X3_init (a := 66)  (by omega) hZ
  refine WP_n (n' := 69) (by omega) ?_
  refine p_putR hK (by omega) d_X11_init_173 fl_RX11_82_10 (fun _ => rfl) rfl kd_0 (by omega) R0x_0_12 ?_
  have hZ := hZ.P (a := 0) (k := 12) (by omega)
  refine p_aload_n hK d_X11_init_176 rfl rfl ?_
  refine p_new (ci := 3) (C := RX3) (T := TX3) (N := 3) hK d_X11_init_177 rfl kl_RX11_79 ki_3 kz_3 (by omega) (by omega) (by omega) kd_69 hZ (by rw [hRm.1]; decide) (by rw [hRm.2]; decide) ?_
  refine WP_n (n' := 70) (by omega) ?_
  have hZ := hZ.mono (show 69 ≤ 70 by omega)
  refine p_dup hK d_X11_init_180 rfl ?_
  refine p_call (As := []) (st := [.ref 69, .ref 0]) hK (I_X3_init (a := 69) kd_69 (by omega) hZ) d_X11_init_181 mf_X3_init (Or.inr mn_RX11_81) im_X3_init rfl rfl (Nat.le_of_ble_eq_true rfl) (by decide) (by omega) (by omega) (by omega) ⟨by rw [hRm.1]; decide, by rw [hRm.2]; decide⟩ rfl ?_
  have hZ := z_X3_init (a := 69)  (by omega) hZ
  refine WP_n (n' := 72) (by omega) ?_
  refine p_putR hK (by omega) d_X11_init_184 fl_RX11_86_10 (fun _ => rfl) rfl kd_0 (by omega) R0x_0_13 ?_
  have hZ := hZ.P (a := 0) (k := 13) (by omega)
  refine p_aload_n hK d_X11_init_187 rfl rfl ?_
  refine p_bipush hK d_X11_init_188 cb_20 ?_
  refine p_newaI (N := 20) hK d_X11_init_190 ac_int (by decide) (by decide +kernel) (by decide) (by omega) (by omega) (by omega) kd_72 ln_72 hZ (by rw [hRm.1]; decide) (by rw [hRm.2]; decide) ?_
  refine WP_n (n' := 73) (by omega) ?_
  have hZ := hZ.mono (show 72 ≤ 73 by omega)
  refine p_putR hK (by omega) d_X11_init_192 fl_RX11_89_10 (fun _ => rfl) rfl kd_0 (by omega) R0x_0_14 ?_
  have hZ := hZ.P (a := 0) (k := 14) (by omega)
  refine p_aload_n hK d_X11_init_195 rfl rfl ?_
  refine p_iconst hK d_X11_init_196 ci_0 ?_
  refine p_putI hK (by omega) d_X11_init_197 fl_RX11_93_10 (fun _ => rfl) rfl kd_0 (by omega) ?_
  have hZ := hZ.I (a := 0) (k := 15) (v := (0 : Int32)) (by omega)
  refine p_aload_n hK d_X11_init_200 rfl rfl ?_
  refine p_new (ci := 0) (C := RX0) (T := TX0) (N := 2) hK d_X11_init_201 rfl kl_RX11_97 ki_0 kz_0 (by omega) (by omega) (by omega) kd_73 hZ (by rw [hRm.1]; decide) (by rw [hRm.2]; decide) ?_
  refine WP_n (n' := 74) (by omega) ?_
  have hZ := hZ.mono (show 73 ≤ 74 by omega)
  refine p_dup hK d_X11_init_204 rfl ?_
  refine p_call (As := []) (st := [.ref 73, .ref 0]) hK (I_X0_init hZ) d_X11_init_205 mf_X0_init (Or.inr mn_RX11_99) im_X0_init rfl rfl (Nat.le_of_ble_eq_true rfl) (by decide) (by omega) (by omega) (by omega) ⟨by rw [hRm.1]; decide, by rw [hRm.2]; decide⟩ rfl ?_
  have hZ := z_X0_init hZ
  refine WP_n (n' := 75) (by omega) ?_
  refine p_putR hK (by omega) d_X11_init_208 fl_RX11_100_10 (fun _ => rfl) rfl kd_0 (by omega) R0x_0_16 ?_
  have hZ := hZ.P (a := 0) (k := 16) (by omega)
  refine p_aload_n hK d_X11_init_211 rfl rfl ?_
  refine p_bipush hK d_X11_init_212 cb_8 ?_
  refine p_newaI (N := 8) hK d_X11_init_214 ac_int (by decide) (by decide +kernel) (by decide) (by omega) (by omega) (by omega) kd_75 ln_75 hZ (by rw [hRm.1]; decide) (by rw [hRm.2]; decide) ?_
  refine WP_n (n' := 76) (by omega) ?_
  have hZ := hZ.mono (show 75 ≤ 76 by omega)
  refine p_putR hK (by omega) d_X11_init_216 fl_RX11_104_10 (fun _ => rfl) rfl kd_0 (by omega) R0x_0_17 ?_
  have hZ := hZ.P (a := 0) (k := 17) (by omega)
  refine p_aload_n hK d_X11_init_219 rfl rfl ?_
  refine p_iconst hK d_X11_init_220 ci_3 ?_
  refine p_newaI (N := 3) hK d_X11_init_221 ac_int (by decide) (by decide +kernel) (by decide) (by omega) (by omega) (by omega) kd_76 ln_76 hZ (by rw [hRm.1]; decide) (by rw [hRm.2]; decide) ?_
  refine WP_n (n' := 77) (by omega) ?_
  have hZ := hZ.mono (show 76 ≤ 77 by omega)
  refine p_putR hK (by omega) d_X11_init_223 fl_RX11_107_10 (fun _ => rfl) rfl kd_0 (by omega) R0x_0_18 ?_
  have hZ := hZ.P (a := 0) (k := 18) (by omega)
  refine p_aload_n hK d_X11_init_226 rfl rfl ?_
  refine p_iconst hK d_X11_init_227 ci_3 ?_
  refine p_newaI (N := 3) hK d_X11_init_228 ac_int (by decide) (by decide +kernel) (by decide) (by omega) (by omega) (by omega) kd_77 ln_77 hZ (by rw [hRm.1]; decide) (by rw [hRm.2]; decide) ?_
  refine WP_n (n' := 78) (by omega) ?_
  have hZ := hZ.mono (show 77 ≤ 78 by omega)
  refine p_putR hK (by omega) d_X11_init_230 fl_RX11_110_10 (fun _ => rfl) rfl kd_0 (by omega) R0x_0_19 ?_
  have hZ := hZ.P (a := 0) (k := 19) (by omega)
  exact p_vret hK d_X11_init_233
def rX12_init (ρ : gs_P) : gs_P := sP (sP (sP (sP (sP (sP (sP (sP (sP (sP (sP (sP (sP (sP (sP (sP (sP (sP (sP (sP (sP (sP (sP (sP (sP (ρ) 78 1) 78 2) 78 3) 78 4) 78 5) 78 15) 78 16) 78 18) 78 19) 78 20) 78 21) 78 22) 88 0) 88 1) 88 2) 78 23) 78 30) 78 31) 78 32) 78 39) 78 40) 78 42) 78 44) 78 46) 78 47
def uX12_init (μ : gs_M) : gs_M := sI (sI (sI μ 78 5 (nI 79)) 78 27 (400 : Int32)) 78 29 (25 : Int32)
theorem z_X12_init {ρ : gs_P} {μ : gs_M} (hZ : gs_Z (79) ρ μ) : gs_Z (98) (rX12_init ρ) (uX12_init μ) := by
  have hZ := hZ.mono (show 79 ≤ 80 by omega)
  have hZ := hZ.P (a := 78) (k := 1) (by omega)
  have hZ := hZ.mono (show 80 ≤ 81 by omega)
  have hZ := hZ.P (a := 78) (k := 2) (by omega)
  have hZ := hZ.mono (show 81 ≤ 82 by omega)
  have hZ := hZ.P (a := 78) (k := 3) (by omega)
  have hZ := hZ.mono (show 82 ≤ 83 by omega)
  have hZ := hZ.P (a := 78) (k := 4) (by omega)
  have hZ := hZ.I (a := 78) (k := 5) (v := nI 79) (by omega)
  have hZ := hZ.P (a := 78) (k := 5) (by omega)
  have hZ := hZ.P (a := 78) (k := 15) (by omega)
  have hZ := hZ.P (a := 78) (k := 16) (by omega)
  have hZ := hZ.mono (show 83 ≤ 84 by omega)
  have hZ := hZ.P (a := 78) (k := 18) (by omega)
  have hZ := hZ.mono (show 84 ≤ 85 by omega)
  have hZ := hZ.P (a := 78) (k := 19) (by omega)
  have hZ := hZ.mono (show 85 ≤ 86 by omega)
  have hZ := hZ.P (a := 78) (k := 20) (by omega)
  have hZ := hZ.mono (show 86 ≤ 87 by omega)
  have hZ := hZ.P (a := 78) (k := 21) (by omega)
  have hZ := hZ.mono (show 87 ≤ 88 by omega)
  have hZ := hZ.P (a := 78) (k := 22) (by omega)
  have hZ := hZ.mono (show 88 ≤ 89 by omega)
  have hZ := hZ.P (a := 88) (k := 0) (by omega)
  have hZ := hZ.P (a := 88) (k := 1) (by omega)
  have hZ := hZ.P (a := 88) (k := 2) (by omega)
  have hZ := hZ.P (a := 78) (k := 23) (by omega)
  have hZ := hZ.I (a := 78) (k := 27) (v := (400 : Int32)) (by omega)
  have hZ := hZ.I (a := 78) (k := 29) (v := (25 : Int32)) (by omega)
  have hZ := hZ.mono (show 89 ≤ 90 by omega)
  have hZ := hZ.P (a := 78) (k := 30) (by omega)
  have hZ := hZ.mono (show 90 ≤ 91 by omega)
  have hZ := hZ.P (a := 78) (k := 31) (by omega)
  have hZ := hZ.mono (show 91 ≤ 92 by omega)
  have hZ := hZ.P (a := 78) (k := 32) (by omega)
  have hZ := hZ.mono (show 92 ≤ 93 by omega)
  have hZ := hZ.P (a := 78) (k := 39) (by omega)
  have hZ := hZ.mono (show 93 ≤ 94 by omega)
  have hZ := hZ.P (a := 78) (k := 40) (by omega)
  have hZ := hZ.mono (show 94 ≤ 95 by omega)
  have hZ := hZ.P (a := 78) (k := 42) (by omega)
  have hZ := hZ.mono (show 95 ≤ 96 by omega)
  have hZ := hZ.P (a := 78) (k := 44) (by omega)
  have hZ := hZ.mono (show 96 ≤ 97 by omega)
  have hZ := hZ.P (a := 78) (k := 46) (by omega)
  have hZ := hZ.mono (show 97 ≤ 98 by omega)
  have hZ := hZ.P (a := 78) (k := 47) (by omega)
  exact hZ
theorem d_X12_init_0 : gd cX12_init 0 (.aload_n 0) 1 1 := ⟨by decide +kernel, rfl⟩
theorem d_X12_init_1 : gd cX12_init 1 (.invokespecial 3) 3 4 := ⟨by decide +kernel, rfl⟩
theorem d_X12_init_4 : gd cX12_init 4 (.aload_n 0) 1 5 := ⟨by decide +kernel, rfl⟩
theorem d_X12_init_5 : gd cX12_init 5 (.sipush 160) 3 8 := ⟨by decide +kernel, rfl⟩
theorem d_X12_init_8 : gd cX12_init 8 (.newarray .byte) 2 10 := ⟨by decide +kernel, rfl⟩
theorem d_X12_init_10 : gd cX12_init 10 (.putfield 9) 3 13 := ⟨by decide +kernel, rfl⟩
theorem d_X12_init_13 : gd cX12_init 13 (.aload_n 0) 1 14 := ⟨by decide +kernel, rfl⟩
theorem d_X12_init_14 : gd cX12_init 14 (.sipush 640) 3 17 := ⟨by decide +kernel, rfl⟩
theorem d_X12_init_17 : gd cX12_init 17 (.newarray .byte) 2 19 := ⟨by decide +kernel, rfl⟩
theorem d_X12_init_19 : gd cX12_init 19 (.putfield 13) 3 22 := ⟨by decide +kernel, rfl⟩
theorem d_X12_init_22 : gd cX12_init 22 (.aload_n 0) 1 23 := ⟨by decide +kernel, rfl⟩
theorem d_X12_init_23 : gd cX12_init 23 (.iconst 4) 1 24 := ⟨by decide +kernel, rfl⟩
theorem d_X12_init_24 : gd cX12_init 24 (.newarray .int) 2 26 := ⟨by decide +kernel, rfl⟩
theorem d_X12_init_26 : gd cX12_init 26 (.putfield 16) 3 29 := ⟨by decide +kernel, rfl⟩
theorem d_X12_init_29 : gd cX12_init 29 (.aload_n 0) 1 30 := ⟨by decide +kernel, rfl⟩
theorem d_X12_init_30 : gd cX12_init 30 (.sipush 128) 3 33 := ⟨by decide +kernel, rfl⟩
theorem d_X12_init_33 : gd cX12_init 33 (.newarray .int) 2 35 := ⟨by decide +kernel, rfl⟩
theorem d_X12_init_35 : gd cX12_init 35 (.putfield 20) 3 38 := ⟨by decide +kernel, rfl⟩
theorem d_X12_init_38 : gd cX12_init 38 (.aload_n 0) 1 39 := ⟨by decide +kernel, rfl⟩
theorem d_X12_init_39 : gd cX12_init 39 (.aload_n 0) 1 40 := ⟨by decide +kernel, rfl⟩
theorem d_X12_init_40 : gd cX12_init 40 (.getfield 9) 3 43 := ⟨by decide +kernel, rfl⟩
theorem d_X12_init_43 : gd cX12_init 43 (.putfield 23) 3 46 := ⟨by decide +kernel, rfl⟩
theorem d_X12_init_46 : gd cX12_init 46 (.aload_n 0) 1 47 := ⟨by decide +kernel, rfl⟩
theorem d_X12_init_47 : gd cX12_init 47 (.ldc 26) 2 49 := ⟨by decide +kernel, rfl⟩
theorem d_X12_init_49 : gd cX12_init 49 (.putfield 28) 3 52 := ⟨by decide +kernel, rfl⟩
theorem d_X12_init_52 : gd cX12_init 52 (.aload_n 0) 1 53 := ⟨by decide +kernel, rfl⟩
theorem d_X12_init_53 : gd cX12_init 53 (.ldc 32) 2 55 := ⟨by decide +kernel, rfl⟩
theorem d_X12_init_55 : gd cX12_init 55 (.putfield 34) 3 58 := ⟨by decide +kernel, rfl⟩
theorem d_X12_init_58 : gd cX12_init 58 (.aload_n 0) 1 59 := ⟨by decide +kernel, rfl⟩
theorem d_X12_init_59 : gd cX12_init 59 (.bipush 35) 2 61 := ⟨by decide +kernel, rfl⟩
theorem d_X12_init_61 : gd cX12_init 61 (.newarray .int) 2 63 := ⟨by decide +kernel, rfl⟩
theorem d_X12_init_63 : gd cX12_init 63 (.putfield 37) 3 66 := ⟨by decide +kernel, rfl⟩
theorem d_X12_init_66 : gd cX12_init 66 (.aload_n 0) 1 67 := ⟨by decide +kernel, rfl⟩
theorem d_X12_init_67 : gd cX12_init 67 (.bipush 80) 2 69 := ⟨by decide +kernel, rfl⟩
theorem d_X12_init_69 : gd cX12_init 69 (.newarray .int) 2 71 := ⟨by decide +kernel, rfl⟩
theorem d_X12_init_71 : gd cX12_init 71 (.putfield 40) 3 74 := ⟨by decide +kernel, rfl⟩
theorem d_X12_init_74 : gd cX12_init 74 (.aload_n 0) 1 75 := ⟨by decide +kernel, rfl⟩
theorem d_X12_init_75 : gd cX12_init 75 (.sipush 140) 3 78 := ⟨by decide +kernel, rfl⟩
theorem d_X12_init_78 : gd cX12_init 78 (.newarray .int) 2 80 := ⟨by decide +kernel, rfl⟩
theorem d_X12_init_80 : gd cX12_init 80 (.putfield 43) 3 83 := ⟨by decide +kernel, rfl⟩
theorem d_X12_init_83 : gd cX12_init 83 (.aload_n 0) 1 84 := ⟨by decide +kernel, rfl⟩
theorem d_X12_init_84 : gd cX12_init 84 (.iconst 4) 1 85 := ⟨by decide +kernel, rfl⟩
theorem d_X12_init_85 : gd cX12_init 85 (.newarray .int) 2 87 := ⟨by decide +kernel, rfl⟩
theorem d_X12_init_87 : gd cX12_init 87 (.putfield 46) 3 90 := ⟨by decide +kernel, rfl⟩
theorem d_X12_init_90 : gd cX12_init 90 (.aload_n 0) 1 91 := ⟨by decide +kernel, rfl⟩
theorem d_X12_init_91 : gd cX12_init 91 (.bipush 7) 2 93 := ⟨by decide +kernel, rfl⟩
theorem d_X12_init_93 : gd cX12_init 93 (.newarray .int) 2 95 := ⟨by decide +kernel, rfl⟩
theorem d_X12_init_95 : gd cX12_init 95 (.putfield 49) 3 98 := ⟨by decide +kernel, rfl⟩
theorem d_X12_init_98 : gd cX12_init 98 (.aload_n 0) 1 99 := ⟨by decide +kernel, rfl⟩
theorem d_X12_init_99 : gd cX12_init 99 (.iconst 3) 1 100 := ⟨by decide +kernel, rfl⟩
theorem d_X12_init_100 : gd cX12_init 100 (.anewarray 52) 3 103 := ⟨by decide +kernel, rfl⟩
theorem d_X12_init_103 : gd cX12_init 103 .dup 1 104 := ⟨by decide +kernel, rfl⟩
theorem d_X12_init_104 : gd cX12_init 104 (.iconst 0) 1 105 := ⟨by decide +kernel, rfl⟩
theorem d_X12_init_105 : gd cX12_init 105 (.ldc 54) 2 107 := ⟨by decide +kernel, rfl⟩
theorem d_X12_init_107 : gd cX12_init 107 .aastore 1 108 := ⟨by decide +kernel, rfl⟩
theorem d_X12_init_108 : gd cX12_init 108 .dup 1 109 := ⟨by decide +kernel, rfl⟩
theorem d_X12_init_109 : gd cX12_init 109 (.iconst 1) 1 110 := ⟨by decide +kernel, rfl⟩
theorem d_X12_init_110 : gd cX12_init 110 (.ldc 56) 2 112 := ⟨by decide +kernel, rfl⟩
theorem d_X12_init_112 : gd cX12_init 112 .aastore 1 113 := ⟨by decide +kernel, rfl⟩
theorem d_X12_init_113 : gd cX12_init 113 .dup 1 114 := ⟨by decide +kernel, rfl⟩
theorem d_X12_init_114 : gd cX12_init 114 (.iconst 2) 1 115 := ⟨by decide +kernel, rfl⟩
theorem d_X12_init_115 : gd cX12_init 115 (.ldc 58) 2 117 := ⟨by decide +kernel, rfl⟩
theorem d_X12_init_117 : gd cX12_init 117 .aastore 1 118 := ⟨by decide +kernel, rfl⟩
theorem d_X12_init_118 : gd cX12_init 118 (.putfield 60) 3 121 := ⟨by decide +kernel, rfl⟩
theorem d_X12_init_121 : gd cX12_init 121 (.aload_n 0) 1 122 := ⟨by decide +kernel, rfl⟩
theorem d_X12_init_122 : gd cX12_init 122 (.sipush 400) 3 125 := ⟨by decide +kernel, rfl⟩
theorem d_X12_init_125 : gd cX12_init 125 (.putfield 64) 3 128 := ⟨by decide +kernel, rfl⟩
theorem d_X12_init_128 : gd cX12_init 128 (.aload_n 0) 1 129 := ⟨by decide +kernel, rfl⟩
theorem d_X12_init_129 : gd cX12_init 129 (.bipush 25) 2 131 := ⟨by decide +kernel, rfl⟩
theorem d_X12_init_131 : gd cX12_init 131 (.putfield 68) 3 134 := ⟨by decide +kernel, rfl⟩
theorem d_X12_init_134 : gd cX12_init 134 (.aload_n 0) 1 135 := ⟨by decide +kernel, rfl⟩
theorem d_X12_init_135 : gd cX12_init 135 (.bipush 81) 2 137 := ⟨by decide +kernel, rfl⟩
theorem d_X12_init_137 : gd cX12_init 137 (.newarray .int) 2 139 := ⟨by decide +kernel, rfl⟩
theorem d_X12_init_139 : gd cX12_init 139 (.putfield 71) 3 142 := ⟨by decide +kernel, rfl⟩
theorem d_X12_init_142 : gd cX12_init 142 (.aload_n 0) 1 143 := ⟨by decide +kernel, rfl⟩
theorem d_X12_init_143 : gd cX12_init 143 (.bipush 81) 2 145 := ⟨by decide +kernel, rfl⟩
theorem d_X12_init_145 : gd cX12_init 145 (.newarray .int) 2 147 := ⟨by decide +kernel, rfl⟩
theorem d_X12_init_147 : gd cX12_init 147 (.putfield 74) 3 150 := ⟨by decide +kernel, rfl⟩
theorem d_X12_init_150 : gd cX12_init 150 (.aload_n 0) 1 151 := ⟨by decide +kernel, rfl⟩
theorem d_X12_init_151 : gd cX12_init 151 (.bipush 81) 2 153 := ⟨by decide +kernel, rfl⟩
theorem d_X12_init_153 : gd cX12_init 153 (.newarray .int) 2 155 := ⟨by decide +kernel, rfl⟩
theorem d_X12_init_155 : gd cX12_init 155 (.putfield 77) 3 158 := ⟨by decide +kernel, rfl⟩
theorem d_X12_init_158 : gd cX12_init 158 (.aload_n 0) 1 159 := ⟨by decide +kernel, rfl⟩
theorem d_X12_init_159 : gd cX12_init 159 (.bipush 6) 2 161 := ⟨by decide +kernel, rfl⟩
theorem d_X12_init_161 : gd cX12_init 161 (.newarray .int) 2 163 := ⟨by decide +kernel, rfl⟩
theorem d_X12_init_163 : gd cX12_init 163 (.putfield 80) 3 166 := ⟨by decide +kernel, rfl⟩
theorem d_X12_init_166 : gd cX12_init 166 (.aload_n 0) 1 167 := ⟨by decide +kernel, rfl⟩
theorem d_X12_init_167 : gd cX12_init 167 (.bipush 6) 2 169 := ⟨by decide +kernel, rfl⟩
theorem d_X12_init_169 : gd cX12_init 169 (.newarray .int) 2 171 := ⟨by decide +kernel, rfl⟩
theorem d_X12_init_171 : gd cX12_init 171 (.putfield 83) 3 174 := ⟨by decide +kernel, rfl⟩
theorem d_X12_init_174 : gd cX12_init 174 (.aload_n 0) 1 175 := ⟨by decide +kernel, rfl⟩
theorem d_X12_init_175 : gd cX12_init 175 (.bipush 20) 2 177 := ⟨by decide +kernel, rfl⟩
theorem d_X12_init_177 : gd cX12_init 177 (.newarray .int) 2 179 := ⟨by decide +kernel, rfl⟩
theorem d_X12_init_179 : gd cX12_init 179 (.putfield 86) 3 182 := ⟨by decide +kernel, rfl⟩
theorem d_X12_init_182 : gd cX12_init 182 (.aload_n 0) 1 183 := ⟨by decide +kernel, rfl⟩
theorem d_X12_init_183 : gd cX12_init 183 (.bipush 60) 2 185 := ⟨by decide +kernel, rfl⟩
theorem d_X12_init_185 : gd cX12_init 185 (.newarray .int) 2 187 := ⟨by decide +kernel, rfl⟩
theorem d_X12_init_187 : gd cX12_init 187 (.putfield 89) 3 190 := ⟨by decide +kernel, rfl⟩
theorem d_X12_init_190 : gd cX12_init 190 (.aload_n 0) 1 191 := ⟨by decide +kernel, rfl⟩
theorem d_X12_init_191 : gd cX12_init 191 (.bipush 6) 2 193 := ⟨by decide +kernel, rfl⟩
theorem d_X12_init_193 : gd cX12_init 193 (.newarray .int) 2 195 := ⟨by decide +kernel, rfl⟩
theorem d_X12_init_195 : gd cX12_init 195 (.putfield 92) 3 198 := ⟨by decide +kernel, rfl⟩
theorem d_X12_init_198 : gd cX12_init 198 (.aload_n 0) 1 199 := ⟨by decide +kernel, rfl⟩
theorem d_X12_init_199 : gd cX12_init 199 (.bipush 6) 2 201 := ⟨by decide +kernel, rfl⟩
theorem d_X12_init_201 : gd cX12_init 201 (.newarray .int) 2 203 := ⟨by decide +kernel, rfl⟩
theorem d_X12_init_203 : gd cX12_init 203 (.putfield 95) 3 206 := ⟨by decide +kernel, rfl⟩
theorem d_X12_init_206 : gd cX12_init 206 .return_ 1 207 := ⟨by decide +kernel, rfl⟩
set_option maxRecDepth 20000 in
theorem I_X12_init {ρ : gs_P} {μ : gs_M} (hZ : gs_Z (79) ρ μ) : INIT yX12_init cX12_init 1 1 19 1548 [.ref 78] (79) ρ μ (98) (rX12_init ρ) (uX12_init μ) := by
  unfold rX12_init uX12_init
  refine gs_enterP mf_X12_init rfl (Nat.le_of_ble_eq_true rfl) (ls := [.ref 78]) rfl (fun p l e R s m args below meth c ad g tyc hRm hK => ?_)
  have hK : KP p R s m args meth c ad g tyc RX12 cX12_init 1 none 1 (79) := hK
  refine p_aload_n hK d_X12_init_0 rfl rfl ?_
  refine p_objInit hK d_X12_init_1 mo_RX12_3 oi_im oi_cd (Nat.le_of_ble_eq_true rfl) (by decide) ?_
  refine p_aload_n hK d_X12_init_4 rfl rfl ?_
  refine p_sipush hK d_X12_init_5 cs_160 ?_
  refine p_newaB (N := 160) hK d_X12_init_8 ac_byte (by decide) (by decide +kernel) (by decide) (by omega) (by omega) (by omega) kd_79 ln_79 hZ (by rw [hRm.1]; decide) (by rw [hRm.2]; decide) ?_
  refine WP_n (n' := 80) (by omega) ?_
  have hZ := hZ.mono (show 79 ≤ 80 by omega)
  refine p_putR hK (by omega) d_X12_init_10 fl_RX12_9_11 (fun _ => rfl) rfl kd_78 (by omega) R0x_78_1 ?_
  have hZ := hZ.P (a := 78) (k := 1) (by omega)
  refine p_aload_n hK d_X12_init_13 rfl rfl ?_
  refine p_sipush hK d_X12_init_14 cs_640 ?_
  refine p_newaB (N := 640) hK d_X12_init_17 ac_byte (by decide) (by decide +kernel) (by decide) (by omega) (by omega) (by omega) kd_80 ln_80 hZ (by rw [hRm.1]; decide) (by rw [hRm.2]; decide) ?_
  refine WP_n (n' := 81) (by omega) ?_
  have hZ := hZ.mono (show 80 ≤ 81 by omega)
  refine p_putR hK (by omega) d_X12_init_19 fl_RX12_13_11 (fun _ => rfl) rfl kd_78 (by omega) R0x_78_2 ?_
  have hZ := hZ.P (a := 78) (k := 2) (by omega)
  refine p_aload_n hK d_X12_init_22 rfl rfl ?_
  refine p_iconst hK d_X12_init_23 ci_4 ?_
  refine p_newaI (N := 4) hK d_X12_init_24 ac_int (by decide) (by decide +kernel) (by decide) (by omega) (by omega) (by omega) kd_81 ln_81 hZ (by rw [hRm.1]; decide) (by rw [hRm.2]; decide) ?_
  refine WP_n (n' := 82) (by omega) ?_
  have hZ := hZ.mono (show 81 ≤ 82 by omega)
  refine p_putR hK (by omega) d_X12_init_26 fl_RX12_16_11 (fun _ => rfl) rfl kd_78 (by omega) R0x_78_3 ?_
  have hZ := hZ.P (a := 78) (k := 3) (by omega)
  refine p_aload_n hK d_X12_init_29 rfl rfl ?_
  refine p_sipush hK d_X12_init_30 cs_128 ?_
  refine p_newaI (N := 128) hK d_X12_init_33 ac_int (by decide) (by decide +kernel) (by decide) (by omega) (by omega) (by omega) kd_82 ln_82 hZ (by rw [hRm.1]; decide) (by rw [hRm.2]; decide) ?_
  refine WP_n (n' := 83) (by omega) ?_
  have hZ := hZ.mono (show 82 ≤ 83 by omega)
  refine p_putR hK (by omega) d_X12_init_35 fl_RX12_20_11 (fun _ => rfl) rfl kd_78 (by omega) R0x_78_4 ?_
  have hZ := hZ.P (a := 78) (k := 4) (by omega)
  refine p_aload_n hK d_X12_init_38 rfl rfl ?_
  refine p_aload_n hK d_X12_init_39 rfl rfl ?_
  refine p_getR hK d_X12_init_40 fl_RX12_9_11 rfl kd_78 (by omega) (by simp [sP, rMna, rX1_init, rX9_init, rX3_init, rX10_init, rX8_init, rX4_init_2, rX2_init, rX4_init_4, rX5_init, rX6_init, rX7_init, rX0_init, rX11_init]) (b := 79) R0x_78_1 ?_
  refine p_putM hK (by omega) d_X12_init_43 fl_RX12_23_11 (fun h => by cases h) rfl kd_78 (by omega) (by decide) ?_
  have hZ := hZ.I (a := 78) (k := 5) (v := nI 79) (by omega)
  have hZ := hZ.P (a := 78) (k := 5) (by omega)
  refine p_aload_n hK d_X12_init_46 rfl rfl ?_
  refine p_ldcS (b := 105) hK d_X12_init_47 (fun q w => q.1) ?_
  refine p_putR hK (by omega) d_X12_init_49 fl_RX12_28_11 (fun _ => rfl) rfl kd_78 (by omega) R0x_78_15 ?_
  have hZ := hZ.P (a := 78) (k := 15) (by omega)
  refine p_aload_n hK d_X12_init_52 rfl rfl ?_
  refine p_ldcS (b := 106) hK d_X12_init_53 (fun q w => q.2) ?_
  refine p_putR hK (by omega) d_X12_init_55 fl_RX12_34_11 (fun _ => rfl) rfl kd_78 (by omega) R0x_78_16 ?_
  have hZ := hZ.P (a := 78) (k := 16) (by omega)
  refine p_aload_n hK d_X12_init_58 rfl rfl ?_
  refine p_bipush hK d_X12_init_59 cb_35 ?_
  refine p_newaI (N := 35) hK d_X12_init_61 ac_int (by decide) (by decide +kernel) (by decide) (by omega) (by omega) (by omega) kd_83 ln_83 hZ (by rw [hRm.1]; decide) (by rw [hRm.2]; decide) ?_
  refine WP_n (n' := 84) (by omega) ?_
  have hZ := hZ.mono (show 83 ≤ 84 by omega)
  refine p_putR hK (by omega) d_X12_init_63 fl_RX12_37_11 (fun _ => rfl) rfl kd_78 (by omega) R0x_78_18 ?_
  have hZ := hZ.P (a := 78) (k := 18) (by omega)
  refine p_aload_n hK d_X12_init_66 rfl rfl ?_
  refine p_bipush hK d_X12_init_67 cb_80 ?_
  refine p_newaI (N := 80) hK d_X12_init_69 ac_int (by decide) (by decide +kernel) (by decide) (by omega) (by omega) (by omega) kd_84 ln_84 hZ (by rw [hRm.1]; decide) (by rw [hRm.2]; decide) ?_
  refine WP_n (n' := 85) (by omega) ?_
  have hZ := hZ.mono (show 84 ≤ 85 by omega)
  refine p_putR hK (by omega) d_X12_init_71 fl_RX12_40_11 (fun _ => rfl) rfl kd_78 (by omega) R0x_78_19 ?_
  have hZ := hZ.P (a := 78) (k := 19) (by omega)
  refine p_aload_n hK d_X12_init_74 rfl rfl ?_
  refine p_sipush hK d_X12_init_75 cs_140 ?_
  refine p_newaI (N := 140) hK d_X12_init_78 ac_int (by decide) (by decide +kernel) (by decide) (by omega) (by omega) (by omega) kd_85 ln_85 hZ (by rw [hRm.1]; decide) (by rw [hRm.2]; decide) ?_
  refine WP_n (n' := 86) (by omega) ?_
  have hZ := hZ.mono (show 85 ≤ 86 by omega)
  refine p_putR hK (by omega) d_X12_init_80 fl_RX12_43_11 (fun _ => rfl) rfl kd_78 (by omega) R0x_78_20 ?_
  have hZ := hZ.P (a := 78) (k := 20) (by omega)
  refine p_aload_n hK d_X12_init_83 rfl rfl ?_
  refine p_iconst hK d_X12_init_84 ci_4 ?_
  refine p_newaI (N := 4) hK d_X12_init_85 ac_int (by decide) (by decide +kernel) (by decide) (by omega) (by omega) (by omega) kd_86 ln_86 hZ (by rw [hRm.1]; decide) (by rw [hRm.2]; decide) ?_
  refine WP_n (n' := 87) (by omega) ?_
  have hZ := hZ.mono (show 86 ≤ 87 by omega)
  refine p_putR hK (by omega) d_X12_init_87 fl_RX12_46_11 (fun _ => rfl) rfl kd_78 (by omega) R0x_78_21 ?_
  have hZ := hZ.P (a := 78) (k := 21) (by omega)
  refine p_aload_n hK d_X12_init_90 rfl rfl ?_
  refine p_bipush hK d_X12_init_91 cb_7 ?_
  refine p_newaI (N := 7) hK d_X12_init_93 ac_int (by decide) (by decide +kernel) (by decide) (by omega) (by omega) (by omega) kd_87 ln_87 hZ (by rw [hRm.1]; decide) (by rw [hRm.2]; decide) ?_
  refine WP_n (n' := 88) (by omega) ?_
  have hZ := hZ.mono (show 87 ≤ 88 by omega)
  refine p_putR hK (by omega) d_X12_init_95 fl_RX12_49_11 (fun _ => rfl) rfl kd_78 (by omega) R0x_78_22 ?_
  have hZ := hZ.P (a := 78) (k := 22) (by omega)
  refine p_aload_n hK d_X12_init_98 rfl rfl ?_
  refine p_iconst hK d_X12_init_99 ci_3 ?_
  refine p_anewS (N := 3) hK d_X12_init_100 kl_RX12_52s (by decide) (by decide +kernel) (by decide) (by omega) (by omega) (by omega) kd_88 ln_88 hZ (by rw [hRm.1]; decide) (by rw [hRm.2]; decide) ?_
  refine WP_n (n' := 89) (by omega) ?_
  have hZ := hZ.mono (show 88 ≤ 89 by omega)
  refine p_dup hK d_X12_init_103 rfl ?_
  refine p_iconst hK d_X12_init_104 ci_0 ?_
  refine p_ldcS (b := 107) hK d_X12_init_105 (fun q w => w.1) ?_
  refine p_aastS (b := 2) (N := 3) hK (by omega) d_X12_init_107 kd_88 ln_88 (by omega) (by decide) (vp_in_l (by decide)) (k := 0) (by decide +kernel) R0x_88_0 ?_
  have hZ := hZ.P (a := 88) (k := 0) (by omega)
  refine p_dup hK d_X12_init_108 rfl ?_
  refine p_iconst hK d_X12_init_109 ci_1 ?_
  refine p_ldcS (b := 108) hK d_X12_init_110 (fun q w => w.2.1) ?_
  refine p_aastS (b := 3) (N := 3) hK (by omega) d_X12_init_112 kd_88 ln_88 (by omega) (by decide) (vp_in_l (by decide)) (k := 1) (by decide +kernel) R0x_88_1 ?_
  have hZ := hZ.P (a := 88) (k := 1) (by omega)
  refine p_dup hK d_X12_init_113 rfl ?_
  refine p_iconst hK d_X12_init_114 ci_2 ?_
  refine p_ldcS (b := 109) hK d_X12_init_115 (fun q w => w.2.2.1) ?_
  refine p_aastS (b := 4) (N := 3) hK (by omega) d_X12_init_117 kd_88 ln_88 (by omega) (by decide) (vp_in_l (by decide)) (k := 2) (by decide +kernel) R0x_88_2 ?_
  have hZ := hZ.P (a := 88) (k := 2) (by omega)
  refine p_putR hK (by omega) d_X12_init_118 fl_RX12_60_11 (fun _ => rfl) rfl kd_78 (by omega) R0x_78_23 ?_
  have hZ := hZ.P (a := 78) (k := 23) (by omega)
  refine p_aload_n hK d_X12_init_121 rfl rfl ?_
  refine p_sipush hK d_X12_init_122 cs_400 ?_
  refine p_putI hK (by omega) d_X12_init_125 fl_RX12_64_11 (fun _ => rfl) rfl kd_78 (by omega) ?_
  have hZ := hZ.I (a := 78) (k := 27) (v := (400 : Int32)) (by omega)
  refine p_aload_n hK d_X12_init_128 rfl rfl ?_
  refine p_bipush hK d_X12_init_129 cb_25 ?_
  refine p_putI hK (by omega) d_X12_init_131 fl_RX12_68_11 (fun _ => rfl) rfl kd_78 (by omega) ?_
  have hZ := hZ.I (a := 78) (k := 29) (v := (25 : Int32)) (by omega)
  refine p_aload_n hK d_X12_init_134 rfl rfl ?_
  refine p_bipush hK d_X12_init_135 cb_81 ?_
  refine p_newaI (N := 81) hK d_X12_init_137 ac_int (by decide) (by decide +kernel) (by decide) (by omega) (by omega) (by omega) kd_89 ln_89 hZ (by rw [hRm.1]; decide) (by rw [hRm.2]; decide) ?_
  refine WP_n (n' := 90) (by omega) ?_
  have hZ := hZ.mono (show 89 ≤ 90 by omega)
  refine p_putR hK (by omega) d_X12_init_139 fl_RX12_71_11 (fun _ => rfl) rfl kd_78 (by omega) R0x_78_30 ?_
  have hZ := hZ.P (a := 78) (k := 30) (by omega)
  refine p_aload_n hK d_X12_init_142 rfl rfl ?_
  refine p_bipush hK d_X12_init_143 cb_81 ?_
  refine p_newaI (N := 81) hK d_X12_init_145 ac_int (by decide) (by decide +kernel) (by decide) (by omega) (by omega) (by omega) kd_90 ln_90 hZ (by rw [hRm.1]; decide) (by rw [hRm.2]; decide) ?_
  refine WP_n (n' := 91) (by omega) ?_
  have hZ := hZ.mono (show 90 ≤ 91 by omega)
  refine p_putR hK (by omega) d_X12_init_147 fl_RX12_74_11 (fun _ => rfl) rfl kd_78 (by omega) R0x_78_31 ?_
  have hZ := hZ.P (a := 78) (k := 31) (by omega)
  refine p_aload_n hK d_X12_init_150 rfl rfl ?_
  refine p_bipush hK d_X12_init_151 cb_81 ?_
  refine p_newaI (N := 81) hK d_X12_init_153 ac_int (by decide) (by decide +kernel) (by decide) (by omega) (by omega) (by omega) kd_91 ln_91 hZ (by rw [hRm.1]; decide) (by rw [hRm.2]; decide) ?_
  refine WP_n (n' := 92) (by omega) ?_
  have hZ := hZ.mono (show 91 ≤ 92 by omega)
  refine p_putR hK (by omega) d_X12_init_155 fl_RX12_77_11 (fun _ => rfl) rfl kd_78 (by omega) R0x_78_32 ?_
  have hZ := hZ.P (a := 78) (k := 32) (by omega)
  refine p_aload_n hK d_X12_init_158 rfl rfl ?_
  refine p_bipush hK d_X12_init_159 cb_6 ?_
  refine p_newaI (N := 6) hK d_X12_init_161 ac_int (by decide) (by decide +kernel) (by decide) (by omega) (by omega) (by omega) kd_92 ln_92 hZ (by rw [hRm.1]; decide) (by rw [hRm.2]; decide) ?_
  refine WP_n (n' := 93) (by omega) ?_
  have hZ := hZ.mono (show 92 ≤ 93 by omega)
  refine p_putR hK (by omega) d_X12_init_163 fl_RX12_80_11 (fun _ => rfl) rfl kd_78 (by omega) R0x_78_39 ?_
  have hZ := hZ.P (a := 78) (k := 39) (by omega)
  refine p_aload_n hK d_X12_init_166 rfl rfl ?_
  refine p_bipush hK d_X12_init_167 cb_6 ?_
  refine p_newaI (N := 6) hK d_X12_init_169 ac_int (by decide) (by decide +kernel) (by decide) (by omega) (by omega) (by omega) kd_93 ln_93 hZ (by rw [hRm.1]; decide) (by rw [hRm.2]; decide) ?_
  refine WP_n (n' := 94) (by omega) ?_
  have hZ := hZ.mono (show 93 ≤ 94 by omega)
  refine p_putR hK (by omega) d_X12_init_171 fl_RX12_83_11 (fun _ => rfl) rfl kd_78 (by omega) R0x_78_40 ?_
  have hZ := hZ.P (a := 78) (k := 40) (by omega)
  refine p_aload_n hK d_X12_init_174 rfl rfl ?_
  refine p_bipush hK d_X12_init_175 cb_20 ?_
  refine p_newaI (N := 20) hK d_X12_init_177 ac_int (by decide) (by decide +kernel) (by decide) (by omega) (by omega) (by omega) kd_94 ln_94 hZ (by rw [hRm.1]; decide) (by rw [hRm.2]; decide) ?_
  refine WP_n (n' := 95) (by omega) ?_
  have hZ := hZ.mono (show 94 ≤ 95 by omega)
  refine p_putR hK (by omega) d_X12_init_179 fl_RX12_86_11 (fun _ => rfl) rfl kd_78 (by omega) R0x_78_42 ?_
  have hZ := hZ.P (a := 78) (k := 42) (by omega)
  refine p_aload_n hK d_X12_init_182 rfl rfl ?_
  refine p_bipush hK d_X12_init_183 cb_60 ?_
  refine p_newaI (N := 60) hK d_X12_init_185 ac_int (by decide) (by decide +kernel) (by decide) (by omega) (by omega) (by omega) kd_95 ln_95 hZ (by rw [hRm.1]; decide) (by rw [hRm.2]; decide) ?_
  refine WP_n (n' := 96) (by omega) ?_
  have hZ := hZ.mono (show 95 ≤ 96 by omega)
  refine p_putR hK (by omega) d_X12_init_187 fl_RX12_89_11 (fun _ => rfl) rfl kd_78 (by omega) R0x_78_44 ?_
  have hZ := hZ.P (a := 78) (k := 44) (by omega)
  refine p_aload_n hK d_X12_init_190 rfl rfl ?_
  refine p_bipush hK d_X12_init_191 cb_6 ?_
  refine p_newaI (N := 6) hK d_X12_init_193 ac_int (by decide) (by decide +kernel) (by decide) (by omega) (by omega) (by omega) kd_96 ln_96 hZ (by rw [hRm.1]; decide) (by rw [hRm.2]; decide) ?_
  refine WP_n (n' := 97) (by omega) ?_
  have hZ := hZ.mono (show 96 ≤ 97 by omega)
  refine p_putR hK (by omega) d_X12_init_195 fl_RX12_92_11 (fun _ => rfl) rfl kd_78 (by omega) R0x_78_46 ?_
  have hZ := hZ.P (a := 78) (k := 46) (by omega)
  refine p_aload_n hK d_X12_init_198 rfl rfl ?_
  refine p_bipush hK d_X12_init_199 cb_6 ?_
  refine p_newaI (N := 6) hK d_X12_init_201 ac_int (by decide) (by decide +kernel) (by decide) (by omega) (by omega) (by omega) kd_97 ln_97 hZ (by rw [hRm.1]; decide) (by rw [hRm.2]; decide) ?_
  refine WP_n (n' := 98) (by omega) ?_
  have hZ := hZ.mono (show 97 ≤ 98 by omega)
  refine p_putR hK (by omega) d_X12_init_203 fl_RX12_95_11 (fun _ => rfl) rfl kd_78 (by omega) R0x_78_47 ?_
  have hZ := hZ.P (a := 78) (k := 47) (by omega)
  exact p_vret hK d_X12_init_206
