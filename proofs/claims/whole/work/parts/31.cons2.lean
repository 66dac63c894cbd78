theorem vr_outerG (c : ClassId) (N h0 : Nat) : ∀ i : Nat, Jvm.Free.Multi.outerC c N h0 i = arrV c N (fun j => va_rf (if j < i then some (h0 + 1 + j) else none))
  | 0 => by
    show ({ cls := c, slots := Array.replicate N .null, vm := .none } : Cell) = _
    rw [arrV_new]
    refine congrArg (arrV c N) (funext fun j => ?_)
    simp [va_rf]
  | i + 1 => by
    show (Jvm.Free.Multi.outerC c N h0 i).setSlot i (.ref (h0 + 1 + i)) = _
    rw [vr_outerG c N h0 i, arrV_store]
    refine congrArg (arrV c N) (funext fun j => ?_)
    by_cases e : j = i
    · subst e
      simp [updV, va_rf]
    · by_cases h : j < i
      · simp [updV, e, h, Nat.lt_succ_of_lt h]
      · simp [updV, e, h, show ¬ j < i + 1 by omega]
theorem gs_asself (vm : Vm) (c : ClassId) : vm.assignable c c = true := by
  show (c == c || _) = true
  rw [beq_self_eq_true, Bool.true_or]
section GSQ
variable {p : Program} {l : Launch} {e : Env} {R : Room} {s : State} {m : MethodId} {args : Array Value} {below : List Frame} {meth : Method} {c : Code} {cells slots : Nat} {Q : State → Prop}
variable {ad : Nat → Nat} {g : va_G} {tyc : Nat → ClassId} {own : String} {cc : ByteArray} {nL : Nat} {ret : Option FieldType} {d : Nat}
variable {pc pc2 : Nat} {ls ls2 : List Value} {st : List Value} {n n0 : Nat} {ρ : gs_P} {μ : gs_M}
theorem gs_rf0 (h : ∀ j, ρ n j = false) : gs_rfP ad ρ n = fun _ => none := funext fun i => by unfold gs_rfP; rw [h i]; rfl
theorem p_anewT {t : Nat} {C : String} (hK : KP p R s m args meth c ad g tyc own cc nL ret d n0) {idx : Nat} {v : Int32} {N : Nat} (ht9 : (gs_tys tyc)[t]? = some (tyc t, .object C)) (hd : gd cc pc (.anewarray idx) 3 pc2) (h1 : Cond.classLink own idx C ∈ gs_tbl) (h2 : gs_AO s → (Cond.arrayOver (.object C)).before args s = true) (hv : ¬ v < 0) (hN : v.toNatClampNeg = N) (hby : N * 4 ≤ 536870912) (hn : n0 + cells = n) (hn9 : n < 99) (hn1 : 0 < n ∨ n0 = 0) (hcell : gs_cellP ad tyc ρ μ n = .inl (tyc t, N, .inr (.inr (.inr (.inr (fun _ => none)))))) (hcl : cells + 1 ≤ R.cells) (hsl : slots + N ≤ R.slots) (kk : WP p l e R s m args below meth c (cells + 1) (slots + N) Q ad g tyc nL pc2 ls (.ref n :: st) (n + 1) ρ μ) : WP p l e R s m args below meth c cells slots Q ad g tyc nL pc ls (.int v :: st) n ρ μ := by
  obtain ⟨hd, rfl⟩ := hd
  have hK' := hK
  obtain ⟨⟨hx, hb, -, -, -, hown, ht, hW, -⟩, had, hV5, -⟩ := hK'
  intro H locs lr hP hS hl T0 hT0 X0
  have hz := gs_size hK hn (by omega) hn1 hP hS hT0 X0
  have hadn : ad n = H.size := by rw [had n hn9, hz]
  subst hN
  refine (show W p l e R s m args below meth c H locs cells slots Q (F0 m pc lr ((.int v :: st).map (vr ad))) from ?_) T0 hT0 X0
  refine W.anew hx hb hown (ht _ h1) (h2 hV5.2.2.2) rfl hd rfl hv hby hcl hsl (fun cA kA comp e1 e2 e3 e4 => ?_)
  have hcA : cA = tyc t := by
    obtain ⟨_, _, -, -, -, h⟩ := (hW.1.2 t _ ht9).2
    exact Option.some.inj (e1.symm.trans h)
  subst hcA
  obtain ⟨hP1, hS1⟩ := p_alloc (H1 := H.push { cls := tyc t, slots := Array.replicate v.toNatClampNeg .null, vm := .none }) hP hS (by simp) (fun q hq => by rw [Array.getElem?_push, if_neg (Nat.ne_of_lt hq)]) (by
    rw [hcell, hadn]
    show (H.push _)[H.size]? = some (vp_cell (tyc t) _)
    rw [vp_cell_q, show (fun j : Nat => va_rf ((fun _ : Nat => (none : Option Nat)) j)) = fun _ => Value.null from rfl, ← arrV_new]
    simp)
  have := kk _ locs lr hP1 hS1 hl
  have e9 : (Value.ref n :: st).map (vr ad) = .ref H.size :: st.map (vr ad) := by rw [← hadn]; rfl
  rw [e9] at this
  exact this
theorem p_anewH (hK : KP p R s m args meth c ad g tyc own cc nL ret d n0) {idx : Nat} {v : Int32} {N : Nat} (hd : gd cc pc (.anewarray idx) 3 pc2) (h1 : Cond.classLink own idx "GrainShift$Hold" ∈ gs_tbl) (hv : ¬ v < 0) (hN : v.toNatClampNeg = N) (hby : N * 4 ≤ 536870912) (hn : n0 + cells = n) (hn9 : n < 99) (hn1 : 0 < n ∨ n0 = 0) (hkd : kd n = 23) (hln : ln n = N) (hZ : gs_Z n ρ μ) (hcl : cells + 1 ≤ R.cells) (hsl : slots + N ≤ R.slots) (kk : WP p l e R s m args below meth c (cells + 1) (slots + N) Q ad g tyc nL pc2 ls (.ref n :: st) (n + 1) ρ μ) : WP p l e R s m args below meth c cells slots Q ad g tyc nL pc ls (.int v :: st) n ρ μ :=
  p_anewT (t := 3) hK rfl hd h1 (fun q => q.1) hv hN hby hn hn9 hn1 (by unfold gs_cellP; rw [hkd]; show (Sum.inl (tyc 3, ln n, Sum.inr (Sum.inr (Sum.inr (Sum.inr (gs_rfP ad ρ n))))) : va_E) = _; rw [hln, gs_rf0 (hZ n (Nat.le_refl n)).2.2]) hcl hsl kk
theorem p_anewS (hK : KP p R s m args meth c ad g tyc own cc nL ret d n0) {idx : Nat} {v : Int32} {N : Nat} (hd : gd cc pc (.anewarray idx) 3 pc2) (h1 : Cond.classLink own idx "java/lang/String" ∈ gs_tbl) (hv : ¬ v < 0) (hN : v.toNatClampNeg = N) (hby : N * 4 ≤ 536870912) (hn : n0 + cells = n) (hn9 : n < 99) (hn1 : 0 < n ∨ n0 = 0) (hkd : kd n = 25) (hln : ln n = N) (hZ : gs_Z n ρ μ) (hcl : cells + 1 ≤ R.cells) (hsl : slots + N ≤ R.slots) (kk : WP p l e R s m args below meth c (cells + 1) (slots + N) Q ad g tyc nL pc2 ls (.ref n :: st) (n + 1) ρ μ) : WP p l e R s m args below meth c cells slots Q ad g tyc nL pc ls (.int v :: st) n ρ μ :=
  p_anewT (t := 5) hK rfl hd h1 (fun q => q.2.1) hv hN hby hn hn9 hn1 (by unfold gs_cellP; rw [hkd]; show (Sum.inl (tyc 5, ln n, Sum.inr (Sum.inr (Sum.inr (Sum.inr (gs_rfP ad ρ n))))) : va_E) = _; rw [hln, gs_rf0 (hZ n (Nat.le_refl n)).2.2]) hcl hsl kk
theorem gs_rfs {a i b : Nat} (h : R0 a i = b) : gs_rfP ad (sP ρ a i) a = va_up (gs_rfP ad ρ a) i (some (ad b)) := funext fun j => by
  unfold gs_rfP va_up
  by_cases hj : j = i
  · subst hj
    rw [if_pos rfl, sP_s, if_pos rfl, h]
  · rw [if_neg hj, sP_n (fun q => hj q.2)]
theorem p_aastH (hK : KP p R s m args meth c ad g tyc own cc nL ret d n0) {a b N k : Nat} {i : Int32} (hn99 : n ≤ 99) (hd : gd cc pc .aastore 1 pc2) (hka : kd a = 23) (hln : ln a = N) (han : a < n) (hkb : kd b = 1) (hbn : b < n) (hi : vp_in i N) (hik : i.toNatClampNeg = k) (hR : R0 a k = b) (kk : WP p l e R s m args below meth c cells slots Q ad g tyc nL pc2 ls st n (sP ρ a k) μ) : WP p l e R s m args below meth c cells slots Q ad g tyc nL pc ls (.ref b :: .int i :: .ref a :: st) n ρ μ := by
  obtain ⟨hd, rfl⟩ := hd
  subst hln
  subst hik
  obtain ⟨⟨hx, hb, -, -, -, hown, ht, hW, -⟩, had, -⟩ := hK
  intro H locs lr hP hS hl
  have ha := gs_getP (ad := ad) (tyc := tyc) (ρ := ρ) (μ := μ) han
  have hca : gs_cellP ad tyc ρ μ a = .inl (tyc 3, ln a, .inr (.inr (.inr (.inr (gs_rfP ad ρ a))))) := by unfold gs_cellP; rw [hka]; rfl
  rw [hca] at ha
  have hb9 := gs_getP (ad := ad) (tyc := tyc) (ρ := ρ) (μ := μ) hbn
  rw [gs_objP hkb (by decide)] at hb9
  refine va_astq hx hb hW.1 hP (gs_DP hW.2.2.2.1 hn99) hS a 3 b 1 ha rfl hb9 rfl hi hd (fun H1 locs1 hP1 _ hS1 => kk H1 locs1 lr ?_ hS1 hl)
  rw [← gs_rfs hR, show (Sum.inl (tyc 3, ln a, Sum.inr (Sum.inr (Sum.inr (Sum.inr (gs_rfP ad (sP ρ a i.toNatClampNeg) a))))) : va_E) = gs_cellP ad tyc (sP ρ a i.toNatClampNeg) μ a by unfold gs_cellP; rw [hka]; rfl, gs_setP han (fun _ _ => rfl) (fun _ _ => rfl) gs_s3] at hP1
  exact hP1
theorem p_aastS (hK : KP p R s m args meth c ad g tyc own cc nL ret d n0) {a b N k : Nat} {i : Int32} (hn99 : n ≤ 99) (hd : gd cc pc .aastore 1 pc2) (hka : kd a = 25) (hln : ln a = N) (han : a < n) (hb5 : b < 5) (hi : vp_in i N) (hik : i.toNatClampNeg = k) (hR : R0 a k = 105 + b) (kk : WP p l e R s m args below meth c cells slots Q ad g tyc nL pc2 ls st n (sP ρ a k) μ) : WP p l e R s m args below meth c cells slots Q ad g tyc nL pc ls (.ref (105 + b) :: .int i :: .ref a :: st) n ρ μ := by
  obtain ⟨hd, rfl⟩ := hd
  subst hln
  subst hik
  obtain ⟨⟨hx, hb, -, -, -, hown, ht, hW, -⟩, had, -⟩ := hK
  intro H locs lr hP hS hl
  have ha := gs_getP (ad := ad) (tyc := tyc) (ρ := ρ) (μ := μ) han
  have hca : gs_cellP ad tyc ρ μ a = .inl (tyc 5, ln a, .inr (.inr (.inr (.inr (gs_rfP ad ρ a))))) := by unfold gs_cellP; rw [hka]; rfl
  rw [hca] at ha
  refine vb_astq (E := "java/lang/String") (C := "java/lang/String") hx hb hW.1 hP (gs_DP hW.2.2.2.1 hn99) hS a 5 ha rfl (vk_recv (adK := fun i => ad (105 + i)) (i := b) hW.2.2.1.2.2.2.2.2.1 hb5 hS) ?_ hi hd (fun H1 locs1 hP1 _ hS1 => kk H1 locs1 lr ?_ hS1 hl)
  · intro comp c0 q1 q2
    cases q1.symm.trans q2
    exact gs_asself _ _
  · rw [← gs_rfs hR, show (Sum.inl (tyc 5, ln a, Sum.inr (Sum.inr (Sum.inr (Sum.inr (gs_rfP ad (sP ρ a i.toNatClampNeg) a))))) : va_E) = gs_cellP ad tyc (sP ρ a i.toNatClampNeg) μ a by unfold gs_cellP; rw [hka]; rfl, gs_setP han (fun _ _ => rfl) (fun _ _ => rfl) gs_s3] at hP1
    exact hP1
theorem p_mna (hK : KP p R s m args meth c ad g tyc own cc nL ret d n0) {idx : Nat} {v w : Int32} {N M : Nat} {ρ2 : gs_P} (hd : gd cc pc (.multianewarray idx 2) 4 pc2) (h1 : Cond.classLink own idx "[[I" ∈ gs_tbl) (h3 : Cond.arrayClass .int ∈ gs_tbl) (hv : ¬ v < 0) (hw : ¬ w < 0) (hN : v.toNatClampNeg = N) (hM : w.toNatClampNeg = M) (hby : N * 4 ≤ 536870912) (hbz : M * 4 ≤ 536870912) (hn : n0 + cells = n) (hn9 : n + 1 + N ≤ 99) (hn1 : 0 < n ∨ n0 = 0) (hkd : kd n = 24) (hln : ln n = N) (hin : ∀ i, i < N → kd (n + 1 + i) = 20 ∧ ln (n + 1 + i) = M ∧ R0 n i = n + 1 + i) (hZ : gs_Z n ρ μ) (hr1 : ∀ i, ρ2 n i = decide (i < N)) (hr2 : ∀ b, b ≠ n → ρ2 b = ρ b) (hcl : cells + (1 + N) ≤ R.cells) (hsl : slots + (N + N * M) ≤ R.slots) (kk : WP p l e R s m args below meth c (cells + 1 + N) (slots + N + N * M) Q ad g tyc nL pc2 ls (.ref n :: st) (n + 1 + N) ρ2 μ) : WP p l e R s m args below meth c cells slots Q ad g tyc nL pc ls (.int w :: .int v :: st) n ρ μ := by
  obtain ⟨hd, rfl⟩ := hd
  have hK' := hK
  obtain ⟨⟨hx, hb, -, -, -, hown, ht, hW, -⟩, had, hV5, -⟩ := hK'
  intro H locs lr hP hS hl T0 hT0 X0
  have hz := gs_size hK hn (by omega) hn1 hP hS hT0 X0
  have hadn : ∀ i, i ≤ N → ad (n + i) = H.size + i := fun i hi => by rw [had (n + i) (by omega), hz]; omega
  subst hN
  subst hM
  obtain ⟨vm₁, cA, comp, -, fA, fC, -, -, X', step⟩ := X0.multianewarray2F (ty := .int) hx hown (ht _ h1) hV5.2.2.2.2.2 (ht _ h3) (g := F0 m pc lr ((.int w :: .int v :: st).map (vr ad))) rfl (by rw [hb]; exact hd) rfl hv hw hby (by show _ * 4 ≤ _; exact hbz) (by omega) rfl rfl hcl hsl
  have hcA : cA = tyc 4 := Option.some.inj (fA.symm.trans (hW.1.2 4 _ rfl).2)
  have hcI : comp = tyc 0 := Option.some.inj (fC.symm.trans (hW.1.2 0 _ rfl).2)
  subst hcA
  subst hcI
  generalize hF : Jvm.Free.Multi.fill (T0.setVm vm₁) (tyc 4) (tyc 0) v.toNatClampNeg w.toNatClampNeg (defaultValue .int) v.toNatClampNeg = F at X' step
  have hTh : (T0.setVm vm₁).heap = H := hT0
  obtain ⟨f1, f2, -, -⟩ := Jvm.Free.Multi.fill_facts (T0.setVm vm₁) (tyc 4) (tyc 0) v.toNatClampNeg w.toNatClampNeg (defaultValue .int) v.toNatClampNeg
  rw [hF, hTh] at f1 f2
  have hold : ∀ x : Nat, x < H.size → F.heap[x]? = H[x]? := fun x hx => by
    have := Jvm.Free.Multi.fill_old (T0.setVm vm₁) (tyc 4) (tyc 0) v.toNatClampNeg w.toNatClampNeg (defaultValue .int) (a := x) (by rw [hTh]; exact hx) v.toNatClampNeg
    rw [hF, hTh] at this
    exact this
  have hrow : ∀ j : Nat, j < v.toNatClampNeg → F.heap[H.size + 1 + j]? = some (Jvm.Free.Multi.innerC (tyc 0) w.toNatClampNeg (defaultValue .int)) := fun j hj => by
    have := Jvm.Free.Multi.fill_inner (T0.setVm vm₁) (tyc 4) (tyc 0) v.toNatClampNeg w.toNatClampNeg (defaultValue .int) v.toNatClampNeg j hj
    rw [hF, hTh] at this
    exact this
  have hP1 : va_P g vwCl (gs_wsP ad tyc (n + 1 + v.toNatClampNeg) ρ2 μ) F.heap := by
    intro k q hq
    by_cases hk : k < n + 1 + v.toNatClampNeg
    · rw [gs_getP hk] at hq
      cases hq
      by_cases h0 : k < n
      · have hc9 : gs_cellP ad tyc ρ2 μ k = gs_cellP ad tyc ρ μ k := by
          unfold gs_cellP gs_fvP gs_rfP
          rw [hr2 k (by omega)]
        rw [hc9]
        have h9 := hP k _ (gs_getP h0)
        exact h9.kept (hold (ad k) h9.lt)
      · by_cases h1 : k = n
        · subst h1
          have hc9 : gs_cellP ad tyc ρ2 μ k = .inl (tyc 4, v.toNatClampNeg, .inr (.inr (.inr (.inr (fun i => if i < v.toNatClampNeg then some (H.size + 1 + i) else none))))) := by
            unfold gs_cellP
            rw [hkd]
            show (Sum.inl (tyc 4, ln k, Sum.inr (Sum.inr (Sum.inr (Sum.inr (gs_rfP ad ρ2 k))))) : va_E) = _
            have hfn : gs_rfP ad ρ2 k = fun i => if i < v.toNatClampNeg then some (H.size + 1 + i) else none := funext fun i => by
              unfold gs_rfP
              rw [hr1 i]
              by_cases hi : i < v.toNatClampNeg
              · rw [if_pos (by simpa using hi), if_pos hi, (hin i hi).2.2, Nat.add_assoc, hadn (1 + i) (by omega)]
                congr 1
                omega
              · rw [if_neg (by simpa using hi), if_neg hi]
            rw [hln, hfn]
          rw [hc9]
          show F.heap[ad k]? = some (vp_cell (tyc 4) _)
          have e0 := hadn 0 (Nat.zero_le _)
          rw [Nat.add_zero] at e0
          rw [e0, Nat.add_zero, f2, vp_cell_q]
          exact congrArg some (vr_outerG (tyc 4) v.toNatClampNeg H.size v.toNatClampNeg)
        · obtain ⟨i, rfl⟩ : ∃ i, k = n + 1 + i := ⟨k - n - 1, by omega⟩
          have hi : i < v.toNatClampNeg := by omega
          obtain ⟨k1, k2, k3⟩ := hin i hi
          have hc9 : gs_cellP ad tyc ρ2 μ (n + 1 + i) = .inl (tyc 0, w.toNatClampNeg, .inl (fun _ => 0)) := by
            unfold gs_cellP
            rw [k1]
            show (Sum.inl (tyc 0, ln (n + 1 + i), Sum.inl (μ.1 (n + 1 + i))) : va_E) = _
            rw [k2, show μ.1 (n + 1 + i) = fun _ => 0 from funext (hZ (n + 1 + i) (by omega)).1]
          rw [hc9]
          show F.heap[ad (n + 1 + i)]? = some (vp_cell (tyc 0) _)
          rw [Nat.add_assoc, hadn (1 + i) (by omega), ← Nat.add_assoc, hrow i hi]
          show some ({ cls := tyc 0, slots := Array.replicate w.toNatClampNeg (.int 0), vm := .none } : Cell) = some (arrV (tyc 0) w.toNatClampNeg (fun _ => .int 0))
          rw [arrV_new]
    · rw [List.getElem?_eq_none (by simp [gs_wsP]; omega)] at hq
      cases hq
  have hS1 : va_S (gs_A ad) s.heap F.heap locs := ⟨by rw [f1]; have := hS.1; omega, fun x h1 h2 => (hold x (Nat.lt_of_lt_of_le h1 hS.1)).trans (hS.2.1 x h1 h2), hS.2.2⟩
  obtain ⟨t, a1, b1⟩ := kk F.heap locs lr hP1 hS1 hl F rfl X'
  refine ⟨t, step t ?_, b1⟩
  have e0 := hadn 0 (Nat.zero_le _)
  rw [Nat.add_zero, Nat.add_zero] at e0
  have e9 : (Value.ref n :: st).map (vr ad) = .ref T0.heap.size :: st.map (vr ad) := by rw [hT0, ← e0]; rfl
  rw [e9] at a1
  exact a1
end GSQ
