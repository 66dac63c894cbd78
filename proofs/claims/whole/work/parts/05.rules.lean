section GSR
variable {p : Program} {l : Launch} {e : Env} {R : Room} {s : State} {m : MethodId} {args : Array Value} {below : List Frame} {meth : Method} {c : Code} {cells slots : Nat} {Q : State → Prop}
variable {ad : Nat → Nat} {g : va_G} {tyc : Nat → ClassId} {own : String} {cc : ByteArray} {nL : Nat} {ret : Option FieldType} {d : Nat}
variable {pc pc2 : Nat} {ls : List Value} {st : List Value} {μ : gs_M}
theorem r_iload_n (hK : KC p R s m args meth c ad g tyc own cc nL ret d) {q : Fin 4} {i : Nat} {x : Int32} (hd : gd cc pc (.iload_n q) 1 pc2) (hi : (q : Nat) = i) (hg : ls[i]? = some (.int x)) (k : WJ p l e R s m args below meth c cells slots Q ad g tyc nL pc2 ls (.int x :: st) μ) : WJ p l e R s m args below meth c cells slots Q ad g tyc nL pc ls (st) μ := by
  obtain ⟨hd, rfl⟩ := hd
  exact fun H locs lr hP hS hl => lv_iload_n hK.1 hK.2.1 hd hi (hl.2.2 i _ hg (by intro q; cases q)) (k H locs lr hP hS hl)
theorem r_iload (hK : KC p R s m args meth c ad g tyc own cc nL ret d) {i : Nat} {x : Int32} (hd : gd cc pc (.iload i) 2 pc2) (hg : ls[i]? = some (.int x)) (k : WJ p l e R s m args below meth c cells slots Q ad g tyc nL pc2 ls (.int x :: st) μ) : WJ p l e R s m args below meth c cells slots Q ad g tyc nL pc ls (st) μ := by
  obtain ⟨hd, rfl⟩ := hd
  exact fun H locs lr hP hS hl => lv_iload hK.1 hK.2.1 hd (hl.2.2 i _ hg (by intro q; cases q)) (k H locs lr hP hS hl)
theorem r_istore_n (hK : KC p R s m args meth c ad g tyc own cc nL ret d) {q : Fin 4} {i : Nat} {x : Int32} {ls2 : List Value} (hd : gd cc pc (.istore_n q) 1 pc2) (hi : (q : Nat) = i) (hn : i < nL) (he : st1 ls i (.int x) = ls2) (k : WJ p l e R s m args below meth c cells slots Q ad g tyc nL pc2 ls2 (st) μ) : WJ p l e R s m args below meth c cells slots Q ad g tyc nL pc ls (.int x :: st) μ := by
  obtain ⟨hd, rfl⟩ := hd
  subst he
  exact fun H locs lr hP hS hl => lv_istore_n hK.1 hK.2.1 hd hi hl.has hn rfl (fun lr2 h2 => k H locs lr2 hP hS (gs_st1 (lr := lr) (v := .int x) h2))
theorem r_istore (hK : KC p R s m args meth c ad g tyc own cc nL ret d) {i : Nat} {x : Int32} {ls2 : List Value} (hd : gd cc pc (.istore i) 2 pc2) (hn : i < nL) (he : st1 ls i (.int x) = ls2) (k : WJ p l e R s m args below meth c cells slots Q ad g tyc nL pc2 ls2 (st) μ) : WJ p l e R s m args below meth c cells slots Q ad g tyc nL pc ls (.int x :: st) μ := by
  obtain ⟨hd, rfl⟩ := hd
  subst he
  exact fun H locs lr hP hS hl => lv_istore hK.1 hK.2.1 hd hl.has hn rfl (fun lr2 h2 => k H locs lr2 hP hS (gs_st1 (lr := lr) (v := .int x) h2))
theorem r_lload_n (hK : KC p R s m args meth c ad g tyc own cc nL ret d) {q : Fin 4} {i : Nat} {x : Int64} (hd : gd cc pc (.lload_n q) 1 pc2) (hi : (q : Nat) = i) (hg : ls[i]? = some (.long x)) (k : WJ p l e R s m args below meth c cells slots Q ad g tyc nL pc2 ls (.long x :: st) μ) : WJ p l e R s m args below meth c cells slots Q ad g tyc nL pc ls (st) μ := by
  obtain ⟨hd, rfl⟩ := hd
  exact fun H locs lr hP hS hl => lv_lload_n hK.1 hK.2.1 hd hi (hl.2.2 i _ hg (by intro q; cases q)) (k H locs lr hP hS hl)
theorem r_lload (hK : KC p R s m args meth c ad g tyc own cc nL ret d) {i : Nat} {x : Int64} (hd : gd cc pc (.lload i) 2 pc2) (hg : ls[i]? = some (.long x)) (k : WJ p l e R s m args below meth c cells slots Q ad g tyc nL pc2 ls (.long x :: st) μ) : WJ p l e R s m args below meth c cells slots Q ad g tyc nL pc ls (st) μ := by
  obtain ⟨hd, rfl⟩ := hd
  exact fun H locs lr hP hS hl => lv_lload hK.1 hK.2.1 hd (hl.2.2 i _ hg (by intro q; cases q)) (k H locs lr hP hS hl)
theorem r_lstore_n (hK : KC p R s m args meth c ad g tyc own cc nL ret d) {q : Fin 4} {i : Nat} {x : Int64} {ls2 : List Value} (hd : gd cc pc (.lstore_n q) 1 pc2) (hi : (q : Nat) = i) (hn : i + 1 < nL) (he : st2 ls i (.long x) = ls2) (k : WJ p l e R s m args below meth c cells slots Q ad g tyc nL pc2 ls2 (st) μ) : WJ p l e R s m args below meth c cells slots Q ad g tyc nL pc ls (.long x :: st) μ := by
  obtain ⟨hd, rfl⟩ := hd
  subst he
  exact fun H locs lr hP hS hl => lv_lstore_n hK.1 hK.2.1 hd hi hl.has hn rfl (fun lr2 h2 => k H locs lr2 hP hS (gs_st2 (lr := lr) (v := .long x) h2))
theorem r_lstore (hK : KC p R s m args meth c ad g tyc own cc nL ret d) {i : Nat} {x : Int64} {ls2 : List Value} (hd : gd cc pc (.lstore i) 2 pc2) (hn : i + 1 < nL) (he : st2 ls i (.long x) = ls2) (k : WJ p l e R s m args below meth c cells slots Q ad g tyc nL pc2 ls2 (st) μ) : WJ p l e R s m args below meth c cells slots Q ad g tyc nL pc ls (.long x :: st) μ := by
  obtain ⟨hd, rfl⟩ := hd
  subst he
  exact fun H locs lr hP hS hl => lv_lstore hK.1 hK.2.1 hd hl.has hn rfl (fun lr2 h2 => k H locs lr2 hP hS (gs_st2 (lr := lr) (v := .long x) h2))
theorem r_aload_n (hK : KC p R s m args meth c ad g tyc own cc nL ret d) {q : Fin 4} {i : Nat} {x : Nat} (hd : gd cc pc (.aload_n q) 1 pc2) (hi : (q : Nat) = i) (hg : ls[i]? = some (.ref x)) (k : WJ p l e R s m args below meth c cells slots Q ad g tyc nL pc2 ls (.ref x :: st) μ) : WJ p l e R s m args below meth c cells slots Q ad g tyc nL pc ls (st) μ := by
  obtain ⟨hd, rfl⟩ := hd
  exact fun H locs lr hP hS hl => lv_aload_n hK.1 hK.2.1 hd hi (hl.2.2 i _ hg (by intro q; cases q)) (k H locs lr hP hS hl)
theorem r_aload (hK : KC p R s m args meth c ad g tyc own cc nL ret d) {i : Nat} {x : Nat} (hd : gd cc pc (.aload i) 2 pc2) (hg : ls[i]? = some (.ref x)) (k : WJ p l e R s m args below meth c cells slots Q ad g tyc nL pc2 ls (.ref x :: st) μ) : WJ p l e R s m args below meth c cells slots Q ad g tyc nL pc ls (st) μ := by
  obtain ⟨hd, rfl⟩ := hd
  exact fun H locs lr hP hS hl => lv_aload hK.1 hK.2.1 hd (hl.2.2 i _ hg (by intro q; cases q)) (k H locs lr hP hS hl)
theorem r_astore_n (hK : KC p R s m args meth c ad g tyc own cc nL ret d) {q : Fin 4} {i : Nat} {x : Nat} {ls2 : List Value} (hd : gd cc pc (.astore_n q) 1 pc2) (hi : (q : Nat) = i) (hn : i < nL) (he : st1 ls i (.ref x) = ls2) (k : WJ p l e R s m args below meth c cells slots Q ad g tyc nL pc2 ls2 (st) μ) : WJ p l e R s m args below meth c cells slots Q ad g tyc nL pc ls (.ref x :: st) μ := by
  obtain ⟨hd, rfl⟩ := hd
  subst he
  exact fun H locs lr hP hS hl => lv_astore_n hK.1 hK.2.1 hd hi hl.has hn rfl (fun lr2 h2 => k H locs lr2 hP hS (gs_st1 (lr := lr) (v := .ref x) h2))
theorem r_astore (hK : KC p R s m args meth c ad g tyc own cc nL ret d) {i : Nat} {x : Nat} {ls2 : List Value} (hd : gd cc pc (.astore i) 2 pc2) (hn : i < nL) (he : st1 ls i (.ref x) = ls2) (k : WJ p l e R s m args below meth c cells slots Q ad g tyc nL pc2 ls2 (st) μ) : WJ p l e R s m args below meth c cells slots Q ad g tyc nL pc ls (.ref x :: st) μ := by
  obtain ⟨hd, rfl⟩ := hd
  subst he
  exact fun H locs lr hP hS hl => lv_astore hK.1 hK.2.1 hd hl.has hn rfl (fun lr2 h2 => k H locs lr2 hP hS (gs_st1 (lr := lr) (v := .ref x) h2))
theorem r_iinc (hK : KC p R s m args meth c ad g tyc own cc nL ret d) {i : Nat} {n : Int} {x v : Int32} {ls2 : List Value} (hd : gd cc pc (.iinc i n) 3 pc2) (hg : ls[i]? = some (.int x)) (hv : x + Int32.ofInt n = v) (hn : i < nL) (he : st1 ls i (.int v) = ls2) (k : WJ p l e R s m args below meth c cells slots Q ad g tyc nL pc2 ls2 (st) μ) : WJ p l e R s m args below meth c cells slots Q ad g tyc nL pc ls (st) μ := by
  obtain ⟨hd, rfl⟩ := hd
  subst he
  intro H locs lr hP hS hl
  obtain ⟨j, hj⟩ := List.getElem?_of_mem (gs_prs_mem (ad := ad) hg (by intro q; cases q))
  exact lv_iinc hK.1 hK.2.1 hd hl.has (k := j) hj hv hn rfl (fun lr2 h2 => k H locs lr2 hP hS (gs_st1 (lr := lr) (v := .int v) h2))
theorem r_iadd (hK : KC p R s m args meth c ad g tyc own cc nL ret d) {x y : Int32} (hd : gd cc pc .iadd 1 pc2)  (k : WJ p l e R s m args below meth c cells slots Q ad g tyc nL pc2 ls (.int (x + y) :: st) μ) : WJ p l e R s m args below meth c cells slots Q ad g tyc nL pc ls (.int y :: .int x :: st) μ := by
  obtain ⟨hd, rfl⟩ := hd
  exact fun H locs lr hP hS hl => lv_iadd hK.1 hK.2.1 hd  (k H locs lr hP hS hl)
theorem r_isub (hK : KC p R s m args meth c ad g tyc own cc nL ret d) {x y : Int32} (hd : gd cc pc .isub 1 pc2)  (k : WJ p l e R s m args below meth c cells slots Q ad g tyc nL pc2 ls (.int (x - y) :: st) μ) : WJ p l e R s m args below meth c cells slots Q ad g tyc nL pc ls (.int y :: .int x :: st) μ := by
  obtain ⟨hd, rfl⟩ := hd
  exact fun H locs lr hP hS hl => lv_isub hK.1 hK.2.1 hd  (k H locs lr hP hS hl)
theorem r_imul (hK : KC p R s m args meth c ad g tyc own cc nL ret d) {x y : Int32} (hd : gd cc pc .imul 1 pc2)  (k : WJ p l e R s m args below meth c cells slots Q ad g tyc nL pc2 ls (.int (x * y) :: st) μ) : WJ p l e R s m args below meth c cells slots Q ad g tyc nL pc ls (.int y :: .int x :: st) μ := by
  obtain ⟨hd, rfl⟩ := hd
  exact fun H locs lr hP hS hl => lv_imul hK.1 hK.2.1 hd  (k H locs lr hP hS hl)
theorem r_iand (hK : KC p R s m args meth c ad g tyc own cc nL ret d) {x y : Int32} (hd : gd cc pc .iand 1 pc2)  (k : WJ p l e R s m args below meth c cells slots Q ad g tyc nL pc2 ls (.int (x &&& y) :: st) μ) : WJ p l e R s m args below meth c cells slots Q ad g tyc nL pc ls (.int y :: .int x :: st) μ := by
  obtain ⟨hd, rfl⟩ := hd
  exact fun H locs lr hP hS hl => lv_iand hK.1 hK.2.1 hd  (k H locs lr hP hS hl)
theorem r_ior (hK : KC p R s m args meth c ad g tyc own cc nL ret d) {x y : Int32} (hd : gd cc pc .ior 1 pc2)  (k : WJ p l e R s m args below meth c cells slots Q ad g tyc nL pc2 ls (.int (x ||| y) :: st) μ) : WJ p l e R s m args below meth c cells slots Q ad g tyc nL pc ls (.int y :: .int x :: st) μ := by
  obtain ⟨hd, rfl⟩ := hd
  exact fun H locs lr hP hS hl => lv_ior hK.1 hK.2.1 hd  (k H locs lr hP hS hl)
theorem r_idiv (hK : KC p R s m args meth c ad g tyc own cc nL ret d) {x y : Int32} (hd : gd cc pc .idiv 1 pc2) (hne : ¬ y = 0) (k : WJ p l e R s m args below meth c cells slots Q ad g tyc nL pc2 ls (.int (x / y) :: st) μ) : WJ p l e R s m args below meth c cells slots Q ad g tyc nL pc ls (.int y :: .int x :: st) μ := by
  obtain ⟨hd, rfl⟩ := hd
  exact fun H locs lr hP hS hl => lv_idiv hK.1 hK.2.1 hd hne (k H locs lr hP hS hl)
theorem r_irem (hK : KC p R s m args meth c ad g tyc own cc nL ret d) {x y : Int32} (hd : gd cc pc .irem 1 pc2) (hne : ¬ y = 0) (k : WJ p l e R s m args below meth c cells slots Q ad g tyc nL pc2 ls (.int (x - x / y * y) :: st) μ) : WJ p l e R s m args below meth c cells slots Q ad g tyc nL pc ls (.int y :: .int x :: st) μ := by
  obtain ⟨hd, rfl⟩ := hd
  exact fun H locs lr hP hS hl => lv_irem hK.1 hK.2.1 hd hne (k H locs lr hP hS hl)
theorem r_ladd (hK : KC p R s m args meth c ad g tyc own cc nL ret d) {x y : Int64} (hd : gd cc pc .ladd 1 pc2)  (k : WJ p l e R s m args below meth c cells slots Q ad g tyc nL pc2 ls (.long (x + y) :: st) μ) : WJ p l e R s m args below meth c cells slots Q ad g tyc nL pc ls (.long y :: .long x :: st) μ := by
  obtain ⟨hd, rfl⟩ := hd
  exact fun H locs lr hP hS hl => lv_ladd hK.1 hK.2.1 hd  (k H locs lr hP hS hl)
theorem r_lsub (hK : KC p R s m args meth c ad g tyc own cc nL ret d) {x y : Int64} (hd : gd cc pc .lsub 1 pc2)  (k : WJ p l e R s m args below meth c cells slots Q ad g tyc nL pc2 ls (.long (x - y) :: st) μ) : WJ p l e R s m args below meth c cells slots Q ad g tyc nL pc ls (.long y :: .long x :: st) μ := by
  obtain ⟨hd, rfl⟩ := hd
  exact fun H locs lr hP hS hl => lv_lsub hK.1 hK.2.1 hd  (k H locs lr hP hS hl)
theorem r_lmul (hK : KC p R s m args meth c ad g tyc own cc nL ret d) {x y : Int64} (hd : gd cc pc .lmul 1 pc2)  (k : WJ p l e R s m args below meth c cells slots Q ad g tyc nL pc2 ls (.long (x * y) :: st) μ) : WJ p l e R s m args below meth c cells slots Q ad g tyc nL pc ls (.long y :: .long x :: st) μ := by
  obtain ⟨hd, rfl⟩ := hd
  exact fun H locs lr hP hS hl => lv_lmul hK.1 hK.2.1 hd  (k H locs lr hP hS hl)
theorem r_land (hK : KC p R s m args meth c ad g tyc own cc nL ret d) {x y : Int64} (hd : gd cc pc .land 1 pc2)  (k : WJ p l e R s m args below meth c cells slots Q ad g tyc nL pc2 ls (.long (x &&& y) :: st) μ) : WJ p l e R s m args below meth c cells slots Q ad g tyc nL pc ls (.long y :: .long x :: st) μ := by
  obtain ⟨hd, rfl⟩ := hd
  exact fun H locs lr hP hS hl => lv_land hK.1 hK.2.1 hd  (k H locs lr hP hS hl)
theorem r_lor (hK : KC p R s m args meth c ad g tyc own cc nL ret d) {x y : Int64} (hd : gd cc pc .lor 1 pc2)  (k : WJ p l e R s m args below meth c cells slots Q ad g tyc nL pc2 ls (.long (x ||| y) :: st) μ) : WJ p l e R s m args below meth c cells slots Q ad g tyc nL pc ls (.long y :: .long x :: st) μ := by
  obtain ⟨hd, rfl⟩ := hd
  exact fun H locs lr hP hS hl => lv_lor hK.1 hK.2.1 hd  (k H locs lr hP hS hl)
theorem r_ldiv (hK : KC p R s m args meth c ad g tyc own cc nL ret d) {x y : Int64} (hd : gd cc pc .ldiv 1 pc2) (hne : ¬ y = 0) (k : WJ p l e R s m args below meth c cells slots Q ad g tyc nL pc2 ls (.long (x / y) :: st) μ) : WJ p l e R s m args below meth c cells slots Q ad g tyc nL pc ls (.long y :: .long x :: st) μ := by
  obtain ⟨hd, rfl⟩ := hd
  exact fun H locs lr hP hS hl => lv_ldiv hK.1 hK.2.1 hd hne (k H locs lr hP hS hl)
theorem r_lrem (hK : KC p R s m args meth c ad g tyc own cc nL ret d) {x y : Int64} (hd : gd cc pc .lrem 1 pc2) (hne : ¬ y = 0) (k : WJ p l e R s m args below meth c cells slots Q ad g tyc nL pc2 ls (.long (x - x / y * y) :: st) μ) : WJ p l e R s m args below meth c cells slots Q ad g tyc nL pc ls (.long y :: .long x :: st) μ := by
  obtain ⟨hd, rfl⟩ := hd
  exact fun H locs lr hP hS hl => lv_lrem hK.1 hK.2.1 hd hne (k H locs lr hP hS hl)
theorem r_ineg (hK : KC p R s m args meth c ad g tyc own cc nL ret d) {x : Int32} (hd : gd cc pc .ineg 1 pc2)  (k : WJ p l e R s m args below meth c cells slots Q ad g tyc nL pc2 ls (.int (-x) :: st) μ) : WJ p l e R s m args below meth c cells slots Q ad g tyc nL pc ls (.int x :: st) μ := by
  obtain ⟨hd, rfl⟩ := hd
  exact fun H locs lr hP hS hl => lv_ineg hK.1 hK.2.1 hd  (k H locs lr hP hS hl)
theorem r_ishl (hK : KC p R s m args meth c ad g tyc own cc nL ret d) {x y : Int32} (hd : gd cc pc .ishl 1 pc2)  (k : WJ p l e R s m args below meth c cells slots Q ad g tyc nL pc2 ls (.int (x <<< (y &&& 31)) :: st) μ) : WJ p l e R s m args below meth c cells slots Q ad g tyc nL pc ls (.int y :: .int x :: st) μ := by
  obtain ⟨hd, rfl⟩ := hd
  exact fun H locs lr hP hS hl => lv_ishl hK.1 hK.2.1 hd  (k H locs lr hP hS hl)
theorem r_ishr (hK : KC p R s m args meth c ad g tyc own cc nL ret d) {x y : Int32} (hd : gd cc pc .ishr 1 pc2)  (k : WJ p l e R s m args below meth c cells slots Q ad g tyc nL pc2 ls (.int (x >>> (y &&& 31)) :: st) μ) : WJ p l e R s m args below meth c cells slots Q ad g tyc nL pc ls (.int y :: .int x :: st) μ := by
  obtain ⟨hd, rfl⟩ := hd
  exact fun H locs lr hP hS hl => lv_ishr hK.1 hK.2.1 hd  (k H locs lr hP hS hl)
theorem r_iushr (hK : KC p R s m args meth c ad g tyc own cc nL ret d) {x y : Int32} (hd : gd cc pc .iushr 1 pc2)  (k : WJ p l e R s m args below meth c cells slots Q ad g tyc nL pc2 ls (.int ((x.toUInt32 >>> (y.toUInt32 &&& Int32.toUInt32 31)).toInt32) :: st) μ) : WJ p l e R s m args below meth c cells slots Q ad g tyc nL pc ls (.int y :: .int x :: st) μ := by
  obtain ⟨hd, rfl⟩ := hd
  exact fun H locs lr hP hS hl => lv_iushr hK.1 hK.2.1 hd rfl (k H locs lr hP hS hl)
theorem r_lushr (hK : KC p R s m args meth c ad g tyc own cc nL ret d) {x : Int64} {y : Int32} (hd : gd cc pc .lushr 1 pc2)  (k : WJ p l e R s m args below meth c cells slots Q ad g tyc nL pc2 ls (.long ((x.toUInt64 >>> (y.toInt64.toUInt64 &&& Int64.toUInt64 63)).toInt64) :: st) μ) : WJ p l e R s m args below meth c cells slots Q ad g tyc nL pc ls (.int y :: .long x :: st) μ := by
  obtain ⟨hd, rfl⟩ := hd
  exact fun H locs lr hP hS hl => lv_lushr hK.1 hK.2.1 hd rfl (k H locs lr hP hS hl)
theorem r_lshl (hK : KC p R s m args meth c ad g tyc own cc nL ret d) {x : Int64} {y : Int32} (hd : gd cc pc .lshl 1 pc2)  (k : WJ p l e R s m args below meth c cells slots Q ad g tyc nL pc2 ls (.long (x <<< (y.toInt64 &&& 63)) :: st) μ) : WJ p l e R s m args below meth c cells slots Q ad g tyc nL pc ls (.int y :: .long x :: st) μ := by
  obtain ⟨hd, rfl⟩ := hd
  exact fun H locs lr hP hS hl => lv_lshl hK.1 hK.2.1 hd rfl (k H locs lr hP hS hl)
theorem r_i2l (hK : KC p R s m args meth c ad g tyc own cc nL ret d) {x : Int32} (hd : gd cc pc .i2l 1 pc2)  (k : WJ p l e R s m args below meth c cells slots Q ad g tyc nL pc2 ls (.long x.toInt64 :: st) μ) : WJ p l e R s m args below meth c cells slots Q ad g tyc nL pc ls (.int x :: st) μ := by
  obtain ⟨hd, rfl⟩ := hd
  exact fun H locs lr hP hS hl => lv_i2l hK.1 hK.2.1 hd rfl (k H locs lr hP hS hl)
theorem r_l2i (hK : KC p R s m args meth c ad g tyc own cc nL ret d) {x : Int64} (hd : gd cc pc .l2i 1 pc2)  (k : WJ p l e R s m args below meth c cells slots Q ad g tyc nL pc2 ls (.int x.toInt32 :: st) μ) : WJ p l e R s m args below meth c cells slots Q ad g tyc nL pc ls (.long x :: st) μ := by
  obtain ⟨hd, rfl⟩ := hd
  exact fun H locs lr hP hS hl => lv_l2i hK.1 hK.2.1 hd rfl (k H locs lr hP hS hl)
theorem r_i2b (hK : KC p R s m args meth c ad g tyc own cc nL ret d) {x : Int32} (hd : gd cc pc .i2b 1 pc2)  (k : WJ p l e R s m args below meth c cells slots Q ad g tyc nL pc2 ls (.int x.toInt8.toInt32 :: st) μ) : WJ p l e R s m args below meth c cells slots Q ad g tyc nL pc ls (.int x :: st) μ := by
  obtain ⟨hd, rfl⟩ := hd
  exact fun H locs lr hP hS hl => lv_i2b hK.1 hK.2.1 hd rfl (k H locs lr hP hS hl)
theorem r_dup (hK : KC p R s m args meth c ad g tyc own cc nL ret d) {v : Value} (hd : gd cc pc .dup 1 pc2) (hv : v.category = 1) (k : WJ p l e R s m args below meth c cells slots Q ad g tyc nL pc2 ls (v :: v :: st) μ) : WJ p l e R s m args below meth c cells slots Q ad g tyc nL pc ls (v :: st) μ := by
  obtain ⟨hd, rfl⟩ := hd
  exact fun H locs lr hP hS hl => lv_dup hK.1 hK.2.1 hd (by rw [vr_cat]; exact hv) (k H locs lr hP hS hl)
theorem r_pop (hK : KC p R s m args meth c ad g tyc own cc nL ret d) {v : Value} (hd : gd cc pc .pop 1 pc2) (hv : v.category = 1) (k : WJ p l e R s m args below meth c cells slots Q ad g tyc nL pc2 ls (st) μ) : WJ p l e R s m args below meth c cells slots Q ad g tyc nL pc ls (v :: st) μ := by
  obtain ⟨hd, rfl⟩ := hd
  exact fun H locs lr hP hS hl => lv_pop hK.1 hK.2.1 hd (by rw [vr_cat]; exact hv) (k H locs lr hP hS hl)
theorem r_dup2 (hK : KC p R s m args meth c ad g tyc own cc nL ret d) {v w : Value} (hd : gd cc pc .dup2 1 pc2) (hv : v.category = 1) (hw : w.category = 1) (k : WJ p l e R s m args below meth c cells slots Q ad g tyc nL pc2 ls (v :: w :: v :: w :: st) μ) : WJ p l e R s m args below meth c cells slots Q ad g tyc nL pc ls (v :: w :: st) μ := by
  obtain ⟨hd, rfl⟩ := hd
  exact fun H locs lr hP hS hl => lv_dup2_11 hK.1 hK.2.1 hd (by rw [vr_cat]; exact hv) (by rw [vr_cat]; exact hw) (k H locs lr hP hS hl)
theorem r_if_eq (hK : KC p R s m args meth c ad g tyc own cc nL ret d) {x : Int32} {off : Int} {tgt : Nat} (hd : gd cc pc (.ifCond .eq off) 3 pc2) (ht : (pc : Int) + off = (tgt : Int)) (kt : x = 0 → WJ p l e R s m args below meth c cells slots Q ad g tyc nL tgt ls (st) μ) (kf : ¬ x = 0 → WJ p l e R s m args below meth c cells slots Q ad g tyc nL pc2 ls (st) μ) : WJ p l e R s m args below meth c cells slots Q ad g tyc nL pc ls (.int x :: st) μ := by
  obtain ⟨hd, rfl⟩ := hd
  exact fun H locs lr hP hS hl => lv_if_eq hK.1 hK.2.1 hd ht (fun q => kt q H locs lr hP hS hl) (fun q => kf q H locs lr hP hS hl)
theorem r_icmp_eq (hK : KC p R s m args meth c ad g tyc own cc nL ret d) {x y : Int32} {off : Int} {tgt : Nat} (hd : gd cc pc (.if_icmp .eq off) 3 pc2) (ht : (pc : Int) + off = (tgt : Int)) (kt : x = y → WJ p l e R s m args below meth c cells slots Q ad g tyc nL tgt ls (st) μ) (kf : ¬ x = y → WJ p l e R s m args below meth c cells slots Q ad g tyc nL pc2 ls (st) μ) : WJ p l e R s m args below meth c cells slots Q ad g tyc nL pc ls (.int y :: .int x :: st) μ := by
  obtain ⟨hd, rfl⟩ := hd
  exact fun H locs lr hP hS hl => lv_icmp_eq hK.1 hK.2.1 hd ht (fun q => kt q H locs lr hP hS hl) (fun q => kf q H locs lr hP hS hl)
theorem r_if_ne (hK : KC p R s m args meth c ad g tyc own cc nL ret d) {x : Int32} {off : Int} {tgt : Nat} (hd : gd cc pc (.ifCond .ne off) 3 pc2) (ht : (pc : Int) + off = (tgt : Int)) (kt : ¬ x = 0 → WJ p l e R s m args below meth c cells slots Q ad g tyc nL tgt ls (st) μ) (kf : x = 0 → WJ p l e R s m args below meth c cells slots Q ad g tyc nL pc2 ls (st) μ) : WJ p l e R s m args below meth c cells slots Q ad g tyc nL pc ls (.int x :: st) μ := by
  obtain ⟨hd, rfl⟩ := hd
  exact fun H locs lr hP hS hl => lv_if_ne hK.1 hK.2.1 hd ht (fun q => kt q H locs lr hP hS hl) (fun q => kf q H locs lr hP hS hl)
theorem r_icmp_ne (hK : KC p R s m args meth c ad g tyc own cc nL ret d) {x y : Int32} {off : Int} {tgt : Nat} (hd : gd cc pc (.if_icmp .ne off) 3 pc2) (ht : (pc : Int) + off = (tgt : Int)) (kt : ¬ x = y → WJ p l e R s m args below meth c cells slots Q ad g tyc nL tgt ls (st) μ) (kf : x = y → WJ p l e R s m args below meth c cells slots Q ad g tyc nL pc2 ls (st) μ) : WJ p l e R s m args below meth c cells slots Q ad g tyc nL pc ls (.int y :: .int x :: st) μ := by
  obtain ⟨hd, rfl⟩ := hd
  exact fun H locs lr hP hS hl => lv_icmp_ne hK.1 hK.2.1 hd ht (fun q => kt q H locs lr hP hS hl) (fun q => kf q H locs lr hP hS hl)
theorem r_if_lt (hK : KC p R s m args meth c ad g tyc own cc nL ret d) {x : Int32} {off : Int} {tgt : Nat} (hd : gd cc pc (.ifCond .lt off) 3 pc2) (ht : (pc : Int) + off = (tgt : Int)) (kt : x < 0 → WJ p l e R s m args below meth c cells slots Q ad g tyc nL tgt ls (st) μ) (kf : ¬ x < 0 → WJ p l e R s m args below meth c cells slots Q ad g tyc nL pc2 ls (st) μ) : WJ p l e R s m args below meth c cells slots Q ad g tyc nL pc ls (.int x :: st) μ := by
  obtain ⟨hd, rfl⟩ := hd
  exact fun H locs lr hP hS hl => lv_if_lt hK.1 hK.2.1 hd ht (fun q => kt q H locs lr hP hS hl) (fun q => kf q H locs lr hP hS hl)
theorem r_icmp_lt (hK : KC p R s m args meth c ad g tyc own cc nL ret d) {x y : Int32} {off : Int} {tgt : Nat} (hd : gd cc pc (.if_icmp .lt off) 3 pc2) (ht : (pc : Int) + off = (tgt : Int)) (kt : x < y → WJ p l e R s m args below meth c cells slots Q ad g tyc nL tgt ls (st) μ) (kf : ¬ x < y → WJ p l e R s m args below meth c cells slots Q ad g tyc nL pc2 ls (st) μ) : WJ p l e R s m args below meth c cells slots Q ad g tyc nL pc ls (.int y :: .int x :: st) μ := by
  obtain ⟨hd, rfl⟩ := hd
  exact fun H locs lr hP hS hl => lv_icmp_lt hK.1 hK.2.1 hd ht (fun q => kt q H locs lr hP hS hl) (fun q => kf q H locs lr hP hS hl)
theorem r_if_ge (hK : KC p R s m args meth c ad g tyc own cc nL ret d) {x : Int32} {off : Int} {tgt : Nat} (hd : gd cc pc (.ifCond .ge off) 3 pc2) (ht : (pc : Int) + off = (tgt : Int)) (kt : 0 ≤ x → WJ p l e R s m args below meth c cells slots Q ad g tyc nL tgt ls (st) μ) (kf : ¬ 0 ≤ x → WJ p l e R s m args below meth c cells slots Q ad g tyc nL pc2 ls (st) μ) : WJ p l e R s m args below meth c cells slots Q ad g tyc nL pc ls (.int x :: st) μ := by
  obtain ⟨hd, rfl⟩ := hd
  exact fun H locs lr hP hS hl => lv_if_ge hK.1 hK.2.1 hd ht (fun q => kt q H locs lr hP hS hl) (fun q => kf q H locs lr hP hS hl)
theorem r_icmp_ge (hK : KC p R s m args meth c ad g tyc own cc nL ret d) {x y : Int32} {off : Int} {tgt : Nat} (hd : gd cc pc (.if_icmp .ge off) 3 pc2) (ht : (pc : Int) + off = (tgt : Int)) (kt : y ≤ x → WJ p l e R s m args below meth c cells slots Q ad g tyc nL tgt ls (st) μ) (kf : ¬ y ≤ x → WJ p l e R s m args below meth c cells slots Q ad g tyc nL pc2 ls (st) μ) : WJ p l e R s m args below meth c cells slots Q ad g tyc nL pc ls (.int y :: .int x :: st) μ := by
  obtain ⟨hd, rfl⟩ := hd
  exact fun H locs lr hP hS hl => lv_icmp_ge hK.1 hK.2.1 hd ht (fun q => kt q H locs lr hP hS hl) (fun q => kf q H locs lr hP hS hl)
theorem r_if_gt (hK : KC p R s m args meth c ad g tyc own cc nL ret d) {x : Int32} {off : Int} {tgt : Nat} (hd : gd cc pc (.ifCond .gt off) 3 pc2) (ht : (pc : Int) + off = (tgt : Int)) (kt : 0 < x → WJ p l e R s m args below meth c cells slots Q ad g tyc nL tgt ls (st) μ) (kf : ¬ 0 < x → WJ p l e R s m args below meth c cells slots Q ad g tyc nL pc2 ls (st) μ) : WJ p l e R s m args below meth c cells slots Q ad g tyc nL pc ls (.int x :: st) μ := by
  obtain ⟨hd, rfl⟩ := hd
  exact fun H locs lr hP hS hl => lv_if_gt hK.1 hK.2.1 hd ht (fun q => kt q H locs lr hP hS hl) (fun q => kf q H locs lr hP hS hl)
theorem r_icmp_gt (hK : KC p R s m args meth c ad g tyc own cc nL ret d) {x y : Int32} {off : Int} {tgt : Nat} (hd : gd cc pc (.if_icmp .gt off) 3 pc2) (ht : (pc : Int) + off = (tgt : Int)) (kt : y < x → WJ p l e R s m args below meth c cells slots Q ad g tyc nL tgt ls (st) μ) (kf : ¬ y < x → WJ p l e R s m args below meth c cells slots Q ad g tyc nL pc2 ls (st) μ) : WJ p l e R s m args below meth c cells slots Q ad g tyc nL pc ls (.int y :: .int x :: st) μ := by
  obtain ⟨hd, rfl⟩ := hd
  exact fun H locs lr hP hS hl => lv_icmp_gt hK.1 hK.2.1 hd ht (fun q => kt q H locs lr hP hS hl) (fun q => kf q H locs lr hP hS hl)
theorem r_if_le (hK : KC p R s m args meth c ad g tyc own cc nL ret d) {x : Int32} {off : Int} {tgt : Nat} (hd : gd cc pc (.ifCond .le off) 3 pc2) (ht : (pc : Int) + off = (tgt : Int)) (kt : x ≤ 0 → WJ p l e R s m args below meth c cells slots Q ad g tyc nL tgt ls (st) μ) (kf : ¬ x ≤ 0 → WJ p l e R s m args below meth c cells slots Q ad g tyc nL pc2 ls (st) μ) : WJ p l e R s m args below meth c cells slots Q ad g tyc nL pc ls (.int x :: st) μ := by
  obtain ⟨hd, rfl⟩ := hd
  exact fun H locs lr hP hS hl => lv_if_le hK.1 hK.2.1 hd ht (fun q => kt q H locs lr hP hS hl) (fun q => kf q H locs lr hP hS hl)
theorem r_icmp_le (hK : KC p R s m args meth c ad g tyc own cc nL ret d) {x y : Int32} {off : Int} {tgt : Nat} (hd : gd cc pc (.if_icmp .le off) 3 pc2) (ht : (pc : Int) + off = (tgt : Int)) (kt : x ≤ y → WJ p l e R s m args below meth c cells slots Q ad g tyc nL tgt ls (st) μ) (kf : ¬ x ≤ y → WJ p l e R s m args below meth c cells slots Q ad g tyc nL pc2 ls (st) μ) : WJ p l e R s m args below meth c cells slots Q ad g tyc nL pc ls (.int y :: .int x :: st) μ := by
  obtain ⟨hd, rfl⟩ := hd
  exact fun H locs lr hP hS hl => lv_icmp_le hK.1 hK.2.1 hd ht (fun q => kt q H locs lr hP hS hl) (fun q => kf q H locs lr hP hS hl)
theorem r_goto (hK : KC p R s m args meth c ad g tyc own cc nL ret d) {off : Int} {tgt : Nat} (hd : gd cc pc (.goto off) 3 pc2) (ht : (pc : Int) + off = (tgt : Int)) (k : WJ p l e R s m args below meth c cells slots Q ad g tyc nL tgt ls (st) μ) : WJ p l e R s m args below meth c cells slots Q ad g tyc nL pc ls (st) μ := by
  exact fun H locs lr hP hS hl => lv_goto hK.1 hK.2.1 hd.1 ht (k H locs lr hP hS hl)
theorem r_tableOut (hK : KC p R s m args meth c ad g tyc own cc nL ret d) {x : Int32} {dflt lo hi : Int} {offs : Array Int} {len tgt : Nat} (hd : gd cc pc (.tableswitch dflt lo hi offs) len pc2) (h : x.toInt < lo ∨ hi < x.toInt) (ht : (pc : Int) + dflt = (tgt : Int)) (k : WJ p l e R s m args below meth c cells slots Q ad g tyc nL tgt ls (st) μ) : WJ p l e R s m args below meth c cells slots Q ad g tyc nL pc ls (.int x :: st) μ := by
  exact fun H locs lr hP hS hl => lv_tableOut hK.1 hK.2.1 hd.1 h ht (k H locs lr hP hS hl)
theorem r_tableIn (hK : KC p R s m args meth c ad g tyc own cc nL ret d) {x : Int32} {dflt lo hi off : Int} {offs : Array Int} {len tgt : Nat} (hd : gd cc pc (.tableswitch dflt lo hi offs) len pc2) (h1 : ¬ x.toInt < lo) (h2 : ¬ hi < x.toInt) (ho : offs[(x.toInt - lo).toNat]? = some off) (ht : (pc : Int) + off = (tgt : Int)) (k : WJ p l e R s m args below meth c cells slots Q ad g tyc nL tgt ls (st) μ) : WJ p l e R s m args below meth c cells slots Q ad g tyc nL pc ls (.int x :: st) μ := by
  exact fun H locs lr hP hS hl => lv_tableIn hK.1 hK.2.1 hd.1 h1 h2 ho ht (k H locs lr hP hS hl)
theorem r_lookup (hK : KC p R s m args meth c ad g tyc own cc nL ret d) {x : Int32} {dflt off : Int} {ps : Array (Int × Int)} {len tgt : Nat} (hd : gd cc pc (.lookupswitch dflt ps) len pc2) (hp : (ps.toList.zip (ps.toList.drop 1)).all (fun (a, next) => a.1 < next.1) = true) (ho : Op.lookupswitch.offset ps.toList dflt x.toInt = off) (ht : (pc : Int) + off = (tgt : Int)) (k : WJ p l e R s m args below meth c cells slots Q ad g tyc nL tgt ls (st) μ) : WJ p l e R s m args below meth c cells slots Q ad g tyc nL pc ls (.int x :: st) μ := by
  exact fun H locs lr hP hS hl => lv_lookup hK.1 hK.2.1 hd.1 hp ho ht (k H locs lr hP hS hl)
theorem r_lcmp (hK : KC p R s m args meth c ad g tyc own cc nL ret d) {x y : Int64} (hd : gd cc pc .lcmp 1 pc2)  (k : WJ p l e R s m args below meth c cells slots Q ad g tyc nL pc2 ls (.int (lg_cmp x y) :: st) μ) : WJ p l e R s m args below meth c cells slots Q ad g tyc nL pc ls (.long y :: .long x :: st) μ := by
  obtain ⟨hd, rfl⟩ := hd
  exact fun H locs lr hP hS hl => W.lcmp hK.1 hK.2.1 hd  (k H locs lr hP hS hl)
end GSR
