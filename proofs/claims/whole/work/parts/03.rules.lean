/-! ===== rows for Run, an instruction each ===== -/
section RUN
variable {X : Nat × (Nat → Int32)} {d kc ks : Nat} {M : MR} {pc nx tgt : Nat} {L : List (Option Value)} {S : List Value} {h : AH} {Q : Option Value → AH → Prop}
theorem Run.iadd {x y : Int32} (hd : DI M pc (.iadd) 1 nx) (k : Run X d kc ks M nx L (.int (x + y) :: S) h Q) : Run X d kc ks M pc L (.int y :: .int x :: S) h Q := by
  obtain ⟨hd, rfl⟩ := hd
  intro E p l e R s m args below meth c H locs cells slots Z ls C h1 h2 h3 h4 hH hS hl kz
  exact lv_iadd C.1 C.2.1 hd (k E p l e R s m args below meth c H locs cells slots Z ls C h1 h2 h3 h4 hH hS hl kz)
theorem Run.isub {x y : Int32} (hd : DI M pc (.isub) 1 nx) (k : Run X d kc ks M nx L (.int (x - y) :: S) h Q) : Run X d kc ks M pc L (.int y :: .int x :: S) h Q := by
  obtain ⟨hd, rfl⟩ := hd
  intro E p l e R s m args below meth c H locs cells slots Z ls C h1 h2 h3 h4 hH hS hl kz
  exact lv_isub C.1 C.2.1 hd (k E p l e R s m args below meth c H locs cells slots Z ls C h1 h2 h3 h4 hH hS hl kz)
theorem Run.imul {x y : Int32} (hd : DI M pc (.imul) 1 nx) (k : Run X d kc ks M nx L (.int (x * y) :: S) h Q) : Run X d kc ks M pc L (.int y :: .int x :: S) h Q := by
  obtain ⟨hd, rfl⟩ := hd
  intro E p l e R s m args below meth c H locs cells slots Z ls C h1 h2 h3 h4 hH hS hl kz
  exact lv_imul C.1 C.2.1 hd (k E p l e R s m args below meth c H locs cells slots Z ls C h1 h2 h3 h4 hH hS hl kz)
theorem Run.iand {x y : Int32} (hd : DI M pc (.iand) 1 nx) (k : Run X d kc ks M nx L (.int (x &&& y) :: S) h Q) : Run X d kc ks M pc L (.int y :: .int x :: S) h Q := by
  obtain ⟨hd, rfl⟩ := hd
  intro E p l e R s m args below meth c H locs cells slots Z ls C h1 h2 h3 h4 hH hS hl kz
  exact lv_iand C.1 C.2.1 hd (k E p l e R s m args below meth c H locs cells slots Z ls C h1 h2 h3 h4 hH hS hl kz)
theorem Run.ior {x y : Int32} (hd : DI M pc (.ior) 1 nx) (k : Run X d kc ks M nx L (.int (x ||| y) :: S) h Q) : Run X d kc ks M pc L (.int y :: .int x :: S) h Q := by
  obtain ⟨hd, rfl⟩ := hd
  intro E p l e R s m args below meth c H locs cells slots Z ls C h1 h2 h3 h4 hH hS hl kz
  exact lv_ior C.1 C.2.1 hd (k E p l e R s m args below meth c H locs cells slots Z ls C h1 h2 h3 h4 hH hS hl kz)
theorem Run.ixor {x y : Int32} (hd : DI M pc (.ixor) 1 nx) (k : Run X d kc ks M nx L (.int (x ^^^ y) :: S) h Q) : Run X d kc ks M pc L (.int y :: .int x :: S) h Q := by
  obtain ⟨hd, rfl⟩ := hd
  intro E p l e R s m args below meth c H locs cells slots Z ls C h1 h2 h3 h4 hH hS hl kz
  exact lv_ixor C.1 C.2.1 hd (k E p l e R s m args below meth c H locs cells slots Z ls C h1 h2 h3 h4 hH hS hl kz)
theorem Run.ishl {x y : Int32} (hd : DI M pc (.ishl) 1 nx) (k : Run X d kc ks M nx L (.int (x <<< (y &&& 31)) :: S) h Q) : Run X d kc ks M pc L (.int y :: .int x :: S) h Q := by
  obtain ⟨hd, rfl⟩ := hd
  intro E p l e R s m args below meth c H locs cells slots Z ls C h1 h2 h3 h4 hH hS hl kz
  exact lv_ishl C.1 C.2.1 hd (k E p l e R s m args below meth c H locs cells slots Z ls C h1 h2 h3 h4 hH hS hl kz)
theorem Run.ishr {x y : Int32} (hd : DI M pc (.ishr) 1 nx) (k : Run X d kc ks M nx L (.int (x >>> (y &&& 31)) :: S) h Q) : Run X d kc ks M pc L (.int y :: .int x :: S) h Q := by
  obtain ⟨hd, rfl⟩ := hd
  intro E p l e R s m args below meth c H locs cells slots Z ls C h1 h2 h3 h4 hH hS hl kz
  exact lv_ishr C.1 C.2.1 hd (k E p l e R s m args below meth c H locs cells slots Z ls C h1 h2 h3 h4 hH hS hl kz)
theorem Run.idiv {x y : Int32} (hd : DI M pc (.idiv) 1 nx) (hy : ¬ y = 0) (k : Run X d kc ks M nx L (.int (x / y) :: S) h Q) : Run X d kc ks M pc L (.int y :: .int x :: S) h Q := by
  obtain ⟨hd, rfl⟩ := hd
  intro E p l e R s m args below meth c H locs cells slots Z ls C h1 h2 h3 h4 hH hS hl kz
  exact lv_idiv C.1 C.2.1 hd hy (k E p l e R s m args below meth c H locs cells slots Z ls C h1 h2 h3 h4 hH hS hl kz)
theorem Run.irem {x y : Int32} (hd : DI M pc (.irem) 1 nx) (hy : ¬ y = 0) (k : Run X d kc ks M nx L (.int (x - x / y * y) :: S) h Q) : Run X d kc ks M pc L (.int y :: .int x :: S) h Q := by
  obtain ⟨hd, rfl⟩ := hd
  intro E p l e R s m args below meth c H locs cells slots Z ls C h1 h2 h3 h4 hH hS hl kz
  exact lv_irem C.1 C.2.1 hd hy (k E p l e R s m args below meth c H locs cells slots Z ls C h1 h2 h3 h4 hH hS hl kz)
theorem Run.ineg {x : Int32} (hd : DI M pc (.ineg) 1 nx) (k : Run X d kc ks M nx L (.int (-x) :: S) h Q) : Run X d kc ks M pc L (.int x :: S) h Q := by
  obtain ⟨hd, rfl⟩ := hd
  intro E p l e R s m args below meth c H locs cells slots Z ls C h1 h2 h3 h4 hH hS hl kz
  exact lv_ineg C.1 C.2.1 hd (k E p l e R s m args below meth c H locs cells slots Z ls C h1 h2 h3 h4 hH hS hl kz)
theorem Run.iushr {x y : Int32} (hd : DI M pc (.iushr) 1 nx) (k : Run X d kc ks M nx L (.int (x.toUInt32 >>> (y.toUInt32 &&& Int32.toUInt32 31)).toInt32 :: S) h Q) : Run X d kc ks M pc L (.int y :: .int x :: S) h Q := by
  obtain ⟨hd, rfl⟩ := hd
  intro E p l e R s m args below meth c H locs cells slots Z ls C h1 h2 h3 h4 hH hS hl kz
  exact lv_iushr C.1 C.2.1 hd rfl (k E p l e R s m args below meth c H locs cells slots Z ls C h1 h2 h3 h4 hH hS hl kz)
theorem Run.ladd {x y : Int64} (hd : DI M pc (.ladd) 1 nx) (k : Run X d kc ks M nx L (.long (x + y) :: S) h Q) : Run X d kc ks M pc L (.long y :: .long x :: S) h Q := by
  obtain ⟨hd, rfl⟩ := hd
  intro E p l e R s m args below meth c H locs cells slots Z ls C h1 h2 h3 h4 hH hS hl kz
  exact lv_ladd C.1 C.2.1 hd (k E p l e R s m args below meth c H locs cells slots Z ls C h1 h2 h3 h4 hH hS hl kz)
theorem Run.lsub {x y : Int64} (hd : DI M pc (.lsub) 1 nx) (k : Run X d kc ks M nx L (.long (x - y) :: S) h Q) : Run X d kc ks M pc L (.long y :: .long x :: S) h Q := by
  obtain ⟨hd, rfl⟩ := hd
  intro E p l e R s m args below meth c H locs cells slots Z ls C h1 h2 h3 h4 hH hS hl kz
  exact lv_lsub C.1 C.2.1 hd (k E p l e R s m args below meth c H locs cells slots Z ls C h1 h2 h3 h4 hH hS hl kz)
theorem Run.lmul {x y : Int64} (hd : DI M pc (.lmul) 1 nx) (k : Run X d kc ks M nx L (.long (x * y) :: S) h Q) : Run X d kc ks M pc L (.long y :: .long x :: S) h Q := by
  obtain ⟨hd, rfl⟩ := hd
  intro E p l e R s m args below meth c H locs cells slots Z ls C h1 h2 h3 h4 hH hS hl kz
  exact lv_lmul C.1 C.2.1 hd (k E p l e R s m args below meth c H locs cells slots Z ls C h1 h2 h3 h4 hH hS hl kz)
theorem Run.land {x y : Int64} (hd : DI M pc (.land) 1 nx) (k : Run X d kc ks M nx L (.long (x &&& y) :: S) h Q) : Run X d kc ks M pc L (.long y :: .long x :: S) h Q := by
  obtain ⟨hd, rfl⟩ := hd
  intro E p l e R s m args below meth c H locs cells slots Z ls C h1 h2 h3 h4 hH hS hl kz
  exact lv_land C.1 C.2.1 hd (k E p l e R s m args below meth c H locs cells slots Z ls C h1 h2 h3 h4 hH hS hl kz)
theorem Run.lor {x y : Int64} (hd : DI M pc (.lor) 1 nx) (k : Run X d kc ks M nx L (.long (x ||| y) :: S) h Q) : Run X d kc ks M pc L (.long y :: .long x :: S) h Q := by
  obtain ⟨hd, rfl⟩ := hd
  intro E p l e R s m args below meth c H locs cells slots Z ls C h1 h2 h3 h4 hH hS hl kz
  exact lv_lor C.1 C.2.1 hd (k E p l e R s m args below meth c H locs cells slots Z ls C h1 h2 h3 h4 hH hS hl kz)
theorem Run.ldiv {x y : Int64} (hd : DI M pc (.ldiv) 1 nx) (hy : ¬ y = 0) (k : Run X d kc ks M nx L (.long (x / y) :: S) h Q) : Run X d kc ks M pc L (.long y :: .long x :: S) h Q := by
  obtain ⟨hd, rfl⟩ := hd
  intro E p l e R s m args below meth c H locs cells slots Z ls C h1 h2 h3 h4 hH hS hl kz
  exact lv_ldiv C.1 C.2.1 hd hy (k E p l e R s m args below meth c H locs cells slots Z ls C h1 h2 h3 h4 hH hS hl kz)
theorem Run.lrem {x y : Int64} (hd : DI M pc (.lrem) 1 nx) (hy : ¬ y = 0) (k : Run X d kc ks M nx L (.long (x - x / y * y) :: S) h Q) : Run X d kc ks M pc L (.long y :: .long x :: S) h Q := by
  obtain ⟨hd, rfl⟩ := hd
  intro E p l e R s m args below meth c H locs cells slots Z ls C h1 h2 h3 h4 hH hS hl kz
  exact lv_lrem C.1 C.2.1 hd hy (k E p l e R s m args below meth c H locs cells slots Z ls C h1 h2 h3 h4 hH hS hl kz)
theorem Run.i2l {x : Int32} (hd : DI M pc (.i2l) 1 nx) (k : Run X d kc ks M nx L (.long x.toInt64 :: S) h Q) : Run X d kc ks M pc L (.int x :: S) h Q := by
  obtain ⟨hd, rfl⟩ := hd
  intro E p l e R s m args below meth c H locs cells slots Z ls C h1 h2 h3 h4 hH hS hl kz
  exact lv_i2l C.1 C.2.1 hd rfl (k E p l e R s m args below meth c H locs cells slots Z ls C h1 h2 h3 h4 hH hS hl kz)
theorem Run.l2i {x : Int64} (hd : DI M pc (.l2i) 1 nx) (k : Run X d kc ks M nx L (.int x.toInt32 :: S) h Q) : Run X d kc ks M pc L (.long x :: S) h Q := by
  obtain ⟨hd, rfl⟩ := hd
  intro E p l e R s m args below meth c H locs cells slots Z ls C h1 h2 h3 h4 hH hS hl kz
  exact lv_l2i C.1 C.2.1 hd rfl (k E p l e R s m args below meth c H locs cells slots Z ls C h1 h2 h3 h4 hH hS hl kz)
theorem Run.lushr {x : Int64} {y : Int32} (hd : DI M pc (.lushr) 1 nx) (k : Run X d kc ks M nx L (.long (x.toUInt64 >>> (y.toInt64.toUInt64 &&& Int64.toUInt64 63)).toInt64 :: S) h Q) : Run X d kc ks M pc L (.int y :: .long x :: S) h Q := by
  obtain ⟨hd, rfl⟩ := hd
  intro E p l e R s m args below meth c H locs cells slots Z ls C h1 h2 h3 h4 hH hS hl kz
  exact lv_lushr C.1 C.2.1 hd rfl (k E p l e R s m args below meth c H locs cells slots Z ls C h1 h2 h3 h4 hH hS hl kz)
theorem Run.lshl {x : Int64} {y : Int32} (hd : DI M pc (.lshl) 1 nx) (k : Run X d kc ks M nx L (.long (x <<< (y.toInt64 &&& 63)) :: S) h Q) : Run X d kc ks M pc L (.int y :: .long x :: S) h Q := by
  obtain ⟨hd, rfl⟩ := hd
  intro E p l e R s m args below meth c H locs cells slots Z ls C h1 h2 h3 h4 hH hS hl kz
  exact lv_lshl C.1 C.2.1 hd rfl (k E p l e R s m args below meth c H locs cells slots Z ls C h1 h2 h3 h4 hH hS hl kz)
theorem Run.lcmp {x y : Int64} (hd : DI M pc (.lcmp) 1 nx) (k : Run X d kc ks M nx L (.int (lg_cmp x y) :: S) h Q) : Run X d kc ks M pc L (.long y :: .long x :: S) h Q := by
  obtain ⟨hd, rfl⟩ := hd
  intro E p l e R s m args below meth c H locs cells slots Z ls C h1 h2 h3 h4 hH hS hl kz
  exact W.lcmp C.1 C.2.1 hd (k E p l e R s m args below meth c H locs cells slots Z ls C h1 h2 h3 h4 hH hS hl kz)
theorem Run.iconst {n : Int} {v : Int32} (hd : DI M pc (.iconst n) 1 nx) (hv : Int32.ofInt n = v) (k : Run X d kc ks M nx L (.int v :: S) h Q) : Run X d kc ks M pc L S h Q := by
  obtain ⟨hd, rfl⟩ := hd
  intro E p l e R s m args below meth c H locs cells slots Z ls C h1 h2 h3 h4 hH hS hl kz
  exact lv_iconst C.1 C.2.1 hd hv (k E p l e R s m args below meth c H locs cells slots Z ls C h1 h2 h3 h4 hH hS hl kz)
theorem Run.bipush {n : Int} {v : Int32} (hd : DI M pc (.bipush n) 2 nx) (hv : (Int8.ofInt n).toInt32 = v) (k : Run X d kc ks M nx L (.int v :: S) h Q) : Run X d kc ks M pc L S h Q := by
  obtain ⟨hd, rfl⟩ := hd
  intro E p l e R s m args below meth c H locs cells slots Z ls C h1 h2 h3 h4 hH hS hl kz
  exact lv_bipush C.1 C.2.1 hd hv (k E p l e R s m args below meth c H locs cells slots Z ls C h1 h2 h3 h4 hH hS hl kz)
theorem Run.sipush {n : Int} {v : Int32} (hd : DI M pc (.sipush n) 3 nx) (hv : (Int16.ofInt n).toInt32 = v) (k : Run X d kc ks M nx L (.int v :: S) h Q) : Run X d kc ks M pc L S h Q := by
  obtain ⟨hd, rfl⟩ := hd
  intro E p l e R s m args below meth c H locs cells slots Z ls C h1 h2 h3 h4 hH hS hl kz
  exact lv_sipush C.1 C.2.1 hd hv (k E p l e R s m args below meth c H locs cells slots Z ls C h1 h2 h3 h4 hH hS hl kz)
theorem Run.lconst {n : Fin 2} {v : Int64} (hd : DI M pc (.lconst n) 1 nx) (hv : Int64.ofNat (n : Nat) = v) (k : Run X d kc ks M nx L (.long v :: S) h Q) : Run X d kc ks M pc L S h Q := by
  obtain ⟨hd, rfl⟩ := hd
  intro E p l e R s m args below meth c H locs cells slots Z ls C h1 h2 h3 h4 hH hS hl kz
  exact lv_lconst C.1 C.2.1 hd hv (k E p l e R s m args below meth c H locs cells slots Z ls C h1 h2 h3 h4 hH hS hl kz)
theorem Run.ldcw {n : Nat} {v : Int32} (hd : DI M pc (.ldc_w n) 3 nx) (hc : Cond.constant M.1.cls n v ∈ TB) (k : Run X d kc ks M nx L (.int v :: S) h Q) : Run X d kc ks M pc L S h Q := by
  obtain ⟨hd, rfl⟩ := hd
  intro E p l e R s m args below meth c H locs cells slots Z ls C h1 h2 h3 h4 hH hS hl kz
  exact lv_ldcw C.1 C.2.1 C.2.2.2.2.1 (C.2.2.2.2.2.1 _ hc) hd (k E p l e R s m args below meth c H locs cells slots Z ls C h1 h2 h3 h4 hH hS hl kz)
theorem Run.ldc2 {n : Nat} {v : Int64} (hd : DI M pc (.ldc2_w n) 3 nx) (hc : Cond.constantLong M.1.cls n v ∈ TB) (k : Run X d kc ks M nx L (.long v :: S) h Q) : Run X d kc ks M pc L S h Q := by
  obtain ⟨hd, rfl⟩ := hd
  intro E p l e R s m args below meth c H locs cells slots Z ls C h1 h2 h3 h4 hH hS hl kz
  exact lv_ldc2 C.1 C.2.1 C.2.2.2.2.1 (C.2.2.2.2.2.1 _ hc) hd (k E p l e R s m args below meth c H locs cells slots Z ls C h1 h2 h3 h4 hH hS hl kz)
theorem Run.dup {v : Value} (hd : DI M pc (.dup) 1 nx) (hv : v.category = 1) (k : Run X d kc ks M nx L (v :: v :: S) h Q) : Run X d kc ks M pc L (v :: S) h Q := by
  obtain ⟨hd, rfl⟩ := hd
  intro E p l e R s m args below meth c H locs cells slots Z ls C h1 h2 h3 h4 hH hS hl kz
  exact lv_dup C.1 C.2.1 hd ((e_cat E v).trans hv) (k E p l e R s m args below meth c H locs cells slots Z ls C h1 h2 h3 h4 hH hS hl kz)
theorem Run.dup2 {v w : Value} (hd : DI M pc (.dup2) 1 nx) (hv : v.category = 1) (hw : w.category = 1) (k : Run X d kc ks M nx L (v :: w :: v :: w :: S) h Q) : Run X d kc ks M pc L (v :: w :: S) h Q := by
  obtain ⟨hd, rfl⟩ := hd
  intro E p l e R s m args below meth c H locs cells slots Z ls C h1 h2 h3 h4 hH hS hl kz
  exact lv_dup2_11 C.1 C.2.1 hd ((e_cat E v).trans hv) ((e_cat E w).trans hw) (k E p l e R s m args below meth c H locs cells slots Z ls C h1 h2 h3 h4 hH hS hl kz)
theorem Run.iload_n {i : Fin 4} {x : Int32} (hd : DI M pc (.iload_n i) 1 nx) (hi : L[(i : Nat)]? = some (some (.int x))) (k : Run X d kc ks M nx L (.int x :: S) h Q) : Run X d kc ks M pc L S h Q := by
  obtain ⟨hd, rfl⟩ := hd
  intro E p l e R s m args below meth c H locs cells slots Z ls C h1 h2 h3 h4 hH hS hl kz
  exact lv_iload_n C.1 C.2.1 hd rfl (lv_of hl hi) (k E p l e R s m args below meth c H locs cells slots Z ls C h1 h2 h3 h4 hH hS hl kz)
theorem Run.iload {i : Nat} {x : Int32} (hd : DI M pc (.iload i) 2 nx) (hi : L[i]? = some (some (.int x))) (k : Run X d kc ks M nx L (.int x :: S) h Q) : Run X d kc ks M pc L S h Q := by
  obtain ⟨hd, rfl⟩ := hd
  intro E p l e R s m args below meth c H locs cells slots Z ls C h1 h2 h3 h4 hH hS hl kz
  exact lv_iload C.1 C.2.1 hd (lv_of hl hi) (k E p l e R s m args below meth c H locs cells slots Z ls C h1 h2 h3 h4 hH hS hl kz)
theorem Run.istore_n {i : Fin 4} {x : Int32} (hd : DI M pc (.istore_n i) 1 nx) (hf : freeAt L (i : Nat) = true) (hi : (L[(i : Nat)]?).isSome = true) (k : Run X d kc ks M nx (L.set (i : Nat) (some (.int x))) S h Q) : Run X d kc ks M pc L (.int x :: S) h Q := by
  obtain ⟨hd, rfl⟩ := hd
  intro E p l e R s m args below meth c H locs cells slots Z ls C h1 h2 h3 h4 hH hS hl kz
  have hi2 : (i : Nat) < M.2.2.1 := by
    rw [← hl.2.1]
    exact (List.getElem?_eq_some_iff.mp (Option.eq_some_of_isSome hi)).1
  refine lv_istore_n C.1 C.2.1 hd rfl (lvL_has hl) hi2 rfl (fun ls2 hl2 => ?_)
  exact k E p l e R s m args below meth c H locs cells slots Z ls2 C h1 h2 h3 h4 hH hS (lvOK_1 (v := .int x) hl hf hi2 hl2) kz
theorem Run.istore {i : Nat} {x : Int32} (hd : DI M pc (.istore i) 2 nx) (hf : freeAt L i = true) (hi : (L[i]?).isSome = true) (k : Run X d kc ks M nx (L.set i (some (.int x))) S h Q) : Run X d kc ks M pc L (.int x :: S) h Q := by
  obtain ⟨hd, rfl⟩ := hd
  intro E p l e R s m args below meth c H locs cells slots Z ls C h1 h2 h3 h4 hH hS hl kz
  have hi2 : i < M.2.2.1 := by
    rw [← hl.2.1]
    exact (List.getElem?_eq_some_iff.mp (Option.eq_some_of_isSome hi)).1
  refine lv_istore C.1 C.2.1 hd (lvL_has hl) hi2 rfl (fun ls2 hl2 => ?_)
  exact k E p l e R s m args below meth c H locs cells slots Z ls2 C h1 h2 h3 h4 hH hS (lvOK_1 (v := .int x) hl hf hi2 hl2) kz
theorem Run.lload_n {i : Fin 4} {x : Int64} (hd : DI M pc (.lload_n i) 1 nx) (hi : L[(i : Nat)]? = some (some (.long x))) (k : Run X d kc ks M nx L (.long x :: S) h Q) : Run X d kc ks M pc L S h Q := by
  obtain ⟨hd, rfl⟩ := hd
  intro E p l e R s m args below meth c H locs cells slots Z ls C h1 h2 h3 h4 hH hS hl kz
  exact lv_lload_n C.1 C.2.1 hd rfl (lv_of hl hi) (k E p l e R s m args below meth c H locs cells slots Z ls C h1 h2 h3 h4 hH hS hl kz)
theorem Run.lload {i : Nat} {x : Int64} (hd : DI M pc (.lload i) 2 nx) (hi : L[i]? = some (some (.long x))) (k : Run X d kc ks M nx L (.long x :: S) h Q) : Run X d kc ks M pc L S h Q := by
  obtain ⟨hd, rfl⟩ := hd
  intro E p l e R s m args below meth c H locs cells slots Z ls C h1 h2 h3 h4 hH hS hl kz
  exact lv_lload C.1 C.2.1 hd (lv_of hl hi) (k E p l e R s m args below meth c H locs cells slots Z ls C h1 h2 h3 h4 hH hS hl kz)
theorem Run.lstore_n {i : Fin 4} {x : Int64} (hd : DI M pc (.lstore_n i) 1 nx) (hf : freeAt L (i : Nat) = true) (hi : (L[(i : Nat) + 1]?).isSome = true) (k : Run X d kc ks M nx ((L.set (i : Nat) (some (.long x))).set ((i : Nat) + 1) none) S h Q) : Run X d kc ks M pc L (.long x :: S) h Q := by
  obtain ⟨hd, rfl⟩ := hd
  intro E p l e R s m args below meth c H locs cells slots Z ls C h1 h2 h3 h4 hH hS hl kz
  have hi2 : (i : Nat) + 1 < M.2.2.1 := by
    rw [← hl.2.1]
    exact (List.getElem?_eq_some_iff.mp (Option.eq_some_of_isSome hi)).1
  refine lv_lstore_n C.1 C.2.1 hd rfl (lvL_has hl) hi2 rfl (fun ls2 hl2 => ?_)
  exact k E p l e R s m args below meth c H locs cells slots Z ls2 C h1 h2 h3 h4 hH hS (lvOK_2 (v := .long x) hl hf hi2 hl2) kz
theorem Run.lstore {i : Nat} {x : Int64} (hd : DI M pc (.lstore i) 2 nx) (hf : freeAt L i = true) (hi : (L[i + 1]?).isSome = true) (k : Run X d kc ks M nx ((L.set i (some (.long x))).set (i + 1) none) S h Q) : Run X d kc ks M pc L (.long x :: S) h Q := by
  obtain ⟨hd, rfl⟩ := hd
  intro E p l e R s m args below meth c H locs cells slots Z ls C h1 h2 h3 h4 hH hS hl kz
  have hi2 : i + 1 < M.2.2.1 := by
    rw [← hl.2.1]
    exact (List.getElem?_eq_some_iff.mp (Option.eq_some_of_isSome hi)).1
  refine lv_lstore C.1 C.2.1 hd (lvL_has hl) hi2 rfl (fun ls2 hl2 => ?_)
  exact k E p l e R s m args below meth c H locs cells slots Z ls2 C h1 h2 h3 h4 hH hS (lvOK_2 (v := .long x) hl hf hi2 hl2) kz
theorem Run.aload_n {i : Fin 4} {x : Nat} (hd : DI M pc (.aload_n i) 1 nx) (hi : L[(i : Nat)]? = some (some (.ref x))) (k : Run X d kc ks M nx L (.ref x :: S) h Q) : Run X d kc ks M pc L S h Q := by
  obtain ⟨hd, rfl⟩ := hd
  intro E p l e R s m args below meth c H locs cells slots Z ls C h1 h2 h3 h4 hH hS hl kz
  exact lv_aload_n C.1 C.2.1 hd rfl (lv_of hl hi) (k E p l e R s m args below meth c H locs cells slots Z ls C h1 h2 h3 h4 hH hS hl kz)
theorem Run.aload {i : Nat} {x : Nat} (hd : DI M pc (.aload i) 2 nx) (hi : L[i]? = some (some (.ref x))) (k : Run X d kc ks M nx L (.ref x :: S) h Q) : Run X d kc ks M pc L S h Q := by
  obtain ⟨hd, rfl⟩ := hd
  intro E p l e R s m args below meth c H locs cells slots Z ls C h1 h2 h3 h4 hH hS hl kz
  exact lv_aload C.1 C.2.1 hd (lv_of hl hi) (k E p l e R s m args below meth c H locs cells slots Z ls C h1 h2 h3 h4 hH hS hl kz)
theorem Run.astore_n {i : Fin 4} {x : Nat} (hd : DI M pc (.astore_n i) 1 nx) (hf : freeAt L (i : Nat) = true) (hi : (L[(i : Nat)]?).isSome = true) (k : Run X d kc ks M nx (L.set (i : Nat) (some (.ref x))) S h Q) : Run X d kc ks M pc L (.ref x :: S) h Q := by
  obtain ⟨hd, rfl⟩ := hd
  intro E p l e R s m args below meth c H locs cells slots Z ls C h1 h2 h3 h4 hH hS hl kz
  have hi2 : (i : Nat) < M.2.2.1 := by
    rw [← hl.2.1]
    exact (List.getElem?_eq_some_iff.mp (Option.eq_some_of_isSome hi)).1
  refine lv_astore_n C.1 C.2.1 hd rfl (lvL_has hl) hi2 rfl (fun ls2 hl2 => ?_)
  exact k E p l e R s m args below meth c H locs cells slots Z ls2 C h1 h2 h3 h4 hH hS (lvOK_1 (v := .ref x) hl hf hi2 hl2) kz
theorem Run.astore {i : Nat} {x : Nat} (hd : DI M pc (.astore i) 2 nx) (hf : freeAt L i = true) (hi : (L[i]?).isSome = true) (k : Run X d kc ks M nx (L.set i (some (.ref x))) S h Q) : Run X d kc ks M pc L (.ref x :: S) h Q := by
  obtain ⟨hd, rfl⟩ := hd
  intro E p l e R s m args below meth c H locs cells slots Z ls C h1 h2 h3 h4 hH hS hl kz
  have hi2 : i < M.2.2.1 := by
    rw [← hl.2.1]
    exact (List.getElem?_eq_some_iff.mp (Option.eq_some_of_isSome hi)).1
  refine lv_astore C.1 C.2.1 hd (lvL_has hl) hi2 rfl (fun ls2 hl2 => ?_)
  exact k E p l e R s m args below meth c H locs cells slots Z ls2 C h1 h2 h3 h4 hH hS (lvOK_1 (v := .ref x) hl hf hi2 hl2) kz
theorem Run.iinc {i : Nat} {n : Int} {x v : Int32} (hd : DI M pc (.iinc i n) 3 nx) (hx : L[i]? = some (some (.int x))) (hv : x + Int32.ofInt n = v) (hf : freeAt L i = true) (k : Run X d kc ks M nx (L.set i (some (.int v))) S h Q) : Run X d kc ks M pc L S h Q := by
  obtain ⟨hd, rfl⟩ := hd
  intro E p l e R s m args below meth c H locs cells slots Z ls C h1 h2 h3 h4 hH hS hl kz
  have hi2 : i < M.2.2.1 := by
    rw [← hl.2.1]
    exact (List.getElem?_eq_some_iff.mp hx).1
  obtain ⟨j, hj⟩ := List.getElem?_of_mem (lvL_mem (E := E) hx)
  refine lv_iinc C.1 C.2.1 hd (lvL_has hl) hj hv hi2 rfl (fun ls2 hl2 => ?_)
  exact k E p l e R s m args below meth c H locs cells slots Z ls2 C h1 h2 h3 h4 hH hS (lvOK_1 (v := .int v) hl hf hi2 hl2) kz
theorem Run.if_eq {x : Int32} {off : Int} (hd : DJ M pc (.ifCond .eq off) off 3 nx tgt) (kt : x = 0 → Run X d kc ks M tgt L S h Q) (kf : ¬ x = 0 → Run X d kc ks M nx L S h Q) : Run X d kc ks M pc L (.int x :: S) h Q := by
  obtain ⟨hd, rfl, ht⟩ := hd
  intro E p l e R s m args below meth c H locs cells slots Z ls C h1 h2 h3 h4 hH hS hl kz
  exact lv_if_eq C.1 C.2.1 hd ht (fun q => kt q E p l e R s m args below meth c H locs cells slots Z ls C h1 h2 h3 h4 hH hS hl kz) (fun q => kf q E p l e R s m args below meth c H locs cells slots Z ls C h1 h2 h3 h4 hH hS hl kz)
theorem Run.icmp_eq {x y : Int32} {off : Int} (hd : DJ M pc (.if_icmp .eq off) off 3 nx tgt) (kt : x = y → Run X d kc ks M tgt L S h Q) (kf : ¬ x = y → Run X d kc ks M nx L S h Q) : Run X d kc ks M pc L (.int y :: .int x :: S) h Q := by
  obtain ⟨hd, rfl, ht⟩ := hd
  intro E p l e R s m args below meth c H locs cells slots Z ls C h1 h2 h3 h4 hH hS hl kz
  exact lv_icmp_eq C.1 C.2.1 hd ht (fun q => kt q E p l e R s m args below meth c H locs cells slots Z ls C h1 h2 h3 h4 hH hS hl kz) (fun q => kf q E p l e R s m args below meth c H locs cells slots Z ls C h1 h2 h3 h4 hH hS hl kz)
theorem Run.if_ne {x : Int32} {off : Int} (hd : DJ M pc (.ifCond .ne off) off 3 nx tgt) (kt : ¬ x = 0 → Run X d kc ks M tgt L S h Q) (kf : x = 0 → Run X d kc ks M nx L S h Q) : Run X d kc ks M pc L (.int x :: S) h Q := by
  obtain ⟨hd, rfl, ht⟩ := hd
  intro E p l e R s m args below meth c H locs cells slots Z ls C h1 h2 h3 h4 hH hS hl kz
  exact lv_if_ne C.1 C.2.1 hd ht (fun q => kt q E p l e R s m args below meth c H locs cells slots Z ls C h1 h2 h3 h4 hH hS hl kz) (fun q => kf q E p l e R s m args below meth c H locs cells slots Z ls C h1 h2 h3 h4 hH hS hl kz)
theorem Run.icmp_ne {x y : Int32} {off : Int} (hd : DJ M pc (.if_icmp .ne off) off 3 nx tgt) (kt : ¬ x = y → Run X d kc ks M tgt L S h Q) (kf : x = y → Run X d kc ks M nx L S h Q) : Run X d kc ks M pc L (.int y :: .int x :: S) h Q := by
  obtain ⟨hd, rfl, ht⟩ := hd
  intro E p l e R s m args below meth c H locs cells slots Z ls C h1 h2 h3 h4 hH hS hl kz
  exact lv_icmp_ne C.1 C.2.1 hd ht (fun q => kt q E p l e R s m args below meth c H locs cells slots Z ls C h1 h2 h3 h4 hH hS hl kz) (fun q => kf q E p l e R s m args below meth c H locs cells slots Z ls C h1 h2 h3 h4 hH hS hl kz)
theorem Run.if_lt {x : Int32} {off : Int} (hd : DJ M pc (.ifCond .lt off) off 3 nx tgt) (kt : x < 0 → Run X d kc ks M tgt L S h Q) (kf : ¬ x < 0 → Run X d kc ks M nx L S h Q) : Run X d kc ks M pc L (.int x :: S) h Q := by
  obtain ⟨hd, rfl, ht⟩ := hd
  intro E p l e R s m args below meth c H locs cells slots Z ls C h1 h2 h3 h4 hH hS hl kz
  exact lv_if_lt C.1 C.2.1 hd ht (fun q => kt q E p l e R s m args below meth c H locs cells slots Z ls C h1 h2 h3 h4 hH hS hl kz) (fun q => kf q E p l e R s m args below meth c H locs cells slots Z ls C h1 h2 h3 h4 hH hS hl kz)
theorem Run.icmp_lt {x y : Int32} {off : Int} (hd : DJ M pc (.if_icmp .lt off) off 3 nx tgt) (kt : x < y → Run X d kc ks M tgt L S h Q) (kf : ¬ x < y → Run X d kc ks M nx L S h Q) : Run X d kc ks M pc L (.int y :: .int x :: S) h Q := by
  obtain ⟨hd, rfl, ht⟩ := hd
  intro E p l e R s m args below meth c H locs cells slots Z ls C h1 h2 h3 h4 hH hS hl kz
  exact lv_icmp_lt C.1 C.2.1 hd ht (fun q => kt q E p l e R s m args below meth c H locs cells slots Z ls C h1 h2 h3 h4 hH hS hl kz) (fun q => kf q E p l e R s m args below meth c H locs cells slots Z ls C h1 h2 h3 h4 hH hS hl kz)
theorem Run.if_ge {x : Int32} {off : Int} (hd : DJ M pc (.ifCond .ge off) off 3 nx tgt) (kt : 0 ≤ x → Run X d kc ks M tgt L S h Q) (kf : ¬ 0 ≤ x → Run X d kc ks M nx L S h Q) : Run X d kc ks M pc L (.int x :: S) h Q := by
  obtain ⟨hd, rfl, ht⟩ := hd
  intro E p l e R s m args below meth c H locs cells slots Z ls C h1 h2 h3 h4 hH hS hl kz
  exact lv_if_ge C.1 C.2.1 hd ht (fun q => kt q E p l e R s m args below meth c H locs cells slots Z ls C h1 h2 h3 h4 hH hS hl kz) (fun q => kf q E p l e R s m args below meth c H locs cells slots Z ls C h1 h2 h3 h4 hH hS hl kz)
theorem Run.icmp_ge {x y : Int32} {off : Int} (hd : DJ M pc (.if_icmp .ge off) off 3 nx tgt) (kt : y ≤ x → Run X d kc ks M tgt L S h Q) (kf : ¬ y ≤ x → Run X d kc ks M nx L S h Q) : Run X d kc ks M pc L (.int y :: .int x :: S) h Q := by
  obtain ⟨hd, rfl, ht⟩ := hd
  intro E p l e R s m args below meth c H locs cells slots Z ls C h1 h2 h3 h4 hH hS hl kz
  exact lv_icmp_ge C.1 C.2.1 hd ht (fun q => kt q E p l e R s m args below meth c H locs cells slots Z ls C h1 h2 h3 h4 hH hS hl kz) (fun q => kf q E p l e R s m args below meth c H locs cells slots Z ls C h1 h2 h3 h4 hH hS hl kz)
theorem Run.if_gt {x : Int32} {off : Int} (hd : DJ M pc (.ifCond .gt off) off 3 nx tgt) (kt : 0 < x → Run X d kc ks M tgt L S h Q) (kf : ¬ 0 < x → Run X d kc ks M nx L S h Q) : Run X d kc ks M pc L (.int x :: S) h Q := by
  obtain ⟨hd, rfl, ht⟩ := hd
  intro E p l e R s m args below meth c H locs cells slots Z ls C h1 h2 h3 h4 hH hS hl kz
  exact lv_if_gt C.1 C.2.1 hd ht (fun q => kt q E p l e R s m args below meth c H locs cells slots Z ls C h1 h2 h3 h4 hH hS hl kz) (fun q => kf q E p l e R s m args below meth c H locs cells slots Z ls C h1 h2 h3 h4 hH hS hl kz)
theorem Run.icmp_gt {x y : Int32} {off : Int} (hd : DJ M pc (.if_icmp .gt off) off 3 nx tgt) (kt : y < x → Run X d kc ks M tgt L S h Q) (kf : ¬ y < x → Run X d kc ks M nx L S h Q) : Run X d kc ks M pc L (.int y :: .int x :: S) h Q := by
  obtain ⟨hd, rfl, ht⟩ := hd
  intro E p l e R s m args below meth c H locs cells slots Z ls C h1 h2 h3 h4 hH hS hl kz
  exact lv_icmp_gt C.1 C.2.1 hd ht (fun q => kt q E p l e R s m args below meth c H locs cells slots Z ls C h1 h2 h3 h4 hH hS hl kz) (fun q => kf q E p l e R s m args below meth c H locs cells slots Z ls C h1 h2 h3 h4 hH hS hl kz)
theorem Run.if_le {x : Int32} {off : Int} (hd : DJ M pc (.ifCond .le off) off 3 nx tgt) (kt : x ≤ 0 → Run X d kc ks M tgt L S h Q) (kf : ¬ x ≤ 0 → Run X d kc ks M nx L S h Q) : Run X d kc ks M pc L (.int x :: S) h Q := by
  obtain ⟨hd, rfl, ht⟩ := hd
  intro E p l e R s m args below meth c H locs cells slots Z ls C h1 h2 h3 h4 hH hS hl kz
  exact lv_if_le C.1 C.2.1 hd ht (fun q => kt q E p l e R s m args below meth c H locs cells slots Z ls C h1 h2 h3 h4 hH hS hl kz) (fun q => kf q E p l e R s m args below meth c H locs cells slots Z ls C h1 h2 h3 h4 hH hS hl kz)
theorem Run.icmp_le {x y : Int32} {off : Int} (hd : DJ M pc (.if_icmp .le off) off 3 nx tgt) (kt : x ≤ y → Run X d kc ks M tgt L S h Q) (kf : ¬ x ≤ y → Run X d kc ks M nx L S h Q) : Run X d kc ks M pc L (.int y :: .int x :: S) h Q := by
  obtain ⟨hd, rfl, ht⟩ := hd
  intro E p l e R s m args below meth c H locs cells slots Z ls C h1 h2 h3 h4 hH hS hl kz
  exact lv_icmp_le C.1 C.2.1 hd ht (fun q => kt q E p l e R s m args below meth c H locs cells slots Z ls C h1 h2 h3 h4 hH hS hl kz) (fun q => kf q E p l e R s m args below meth c H locs cells slots Z ls C h1 h2 h3 h4 hH hS hl kz)
theorem Run.goto {off : Int} (hd : DJ M pc (.goto off) off 3 nx tgt) (k : Run X d kc ks M tgt L S h Q) : Run X d kc ks M pc L S h Q := by
  obtain ⟨hd, rfl, ht⟩ := hd
  intro E p l e R s m args below meth c H locs cells slots Z ls C h1 h2 h3 h4 hH hS hl kz
  exact lv_goto C.1 C.2.1 hd ht (k E p l e R s m args below meth c H locs cells slots Z ls C h1 h2 h3 h4 hH hS hl kz)
theorem Run.tswIn {dflt lo hi : Int} {offs : Array Int} {x : Int32} {off : Int} {len : Nat} (hd : decode M.2.1 pc = .ok (.tableswitch dflt lo hi offs, len)) (a1 : ¬ x.toInt < lo) (a2 : ¬ hi < x.toInt) (ho : offs[(x.toInt - lo).toNat]? = some off) (ht : (pc : Int) + off = (tgt : Int)) (k : Run X d kc ks M tgt L S h Q) : Run X d kc ks M pc L (.int x :: S) h Q := by
  intro E p l e R s m args below meth c H locs cells slots Z ls C h1 h2 h3 h4 hH hS hl kz
  exact lv_tableIn C.1 C.2.1 hd a1 a2 ho ht (k E p l e R s m args below meth c H locs cells slots Z ls C h1 h2 h3 h4 hH hS hl kz)
theorem Run.tswOut {dflt lo hi : Int} {offs : Array Int} {x : Int32} {len : Nat} (hd : decode M.2.1 pc = .ok (.tableswitch dflt lo hi offs, len)) (a1 : x.toInt < lo ∨ hi < x.toInt) (ht : (pc : Int) + dflt = (tgt : Int)) (k : Run X d kc ks M tgt L S h Q) : Run X d kc ks M pc L (.int x :: S) h Q := by
  intro E p l e R s m args below meth c H locs cells slots Z ls C h1 h2 h3 h4 hH hS hl kz
  exact lv_tableOut C.1 C.2.1 hd a1 ht (k E p l e R s m args below meth c H locs cells slots Z ls C h1 h2 h3 h4 hH hS hl kz)
theorem Run.lsw {dflt : Int} {ps : Array (Int × Int)} {x : Int32} {off : Int} {len : Nat} (hd : decode M.2.1 pc = .ok (.lookupswitch dflt ps, len)) (hp : (ps.toList.zip (ps.toList.drop 1)).all (fun (a, next) => a.1 < next.1) = true) (ho : Op.lookupswitch.offset ps.toList dflt x.toInt = off) (ht : (pc : Int) + off = (tgt : Int)) (k : Run X d kc ks M tgt L S h Q) : Run X d kc ks M pc L (.int x :: S) h Q := by
  intro E p l e R s m args below meth c H locs cells slots Z ls C h1 h2 h3 h4 hH hS hl kz
  exact lv_lookup C.1 C.2.1 hd hp ho ht (k E p l e R s m args below meth c H locs cells slots Z ls C h1 h2 h3 h4 hH hS hl kz)
theorem Run.iret {x : Int32} {ty : FieldType} (hd : DI M pc .ireturn 1 nx) (hr : M.2.2.2 = some ty) (hn : narrow ty (.int x) = .int x) (hq : Q (some (.int x)) h) : Run X d kc ks M pc L [.int x] h Q := by
  intro E p l e R s m args below meth c H locs cells slots Z ls C h1 h2 h3 h4 hH hS hl kz
  exact kz _ h H locs cells slots _ hq ⟨pc, ls, Or.inr (Or.inl ⟨x, ty, rfl, rfl, hd.1, hr, hn⟩)⟩ hH hS (Nat.le_add_right _ _) (Nat.le_add_right _ _)
theorem Run.lret {x : Int64} (hd : DI M pc .lreturn 1 nx) (hr : M.2.2.2 = some .long) (hq : Q (some (.long x)) h) : Run X d kc ks M pc L [.long x] h Q := by
  intro E p l e R s m args below meth c H locs cells slots Z ls C h1 h2 h3 h4 hH hS hl kz
  exact kz _ h H locs cells slots _ hq ⟨pc, ls, Or.inr (Or.inr ⟨x, rfl, rfl, hd.1, hr⟩)⟩ hH hS (Nat.le_add_right _ _) (Nat.le_add_right _ _)
theorem Run.vret (hd : DI M pc .return_ 1 nx) (hr : M.2.2.2 = none) (hq : Q none h) : Run X d kc ks M pc L [] h Q := by
  intro E p l e R s m args below meth c H locs cells slots Z ls C h1 h2 h3 h4 hH hS hl kz
  exact kz _ h H locs cells slots _ hq ⟨pc, ls, Or.inl ⟨rfl, rfl, hd.1, hr⟩⟩ hH hS (Nat.le_add_right _ _) (Nat.le_add_right _ _)
theorem Run.weaken {Q2 : Option Value → AH → Prop} (hQ : ∀ r h2, Q2 r h2 → Q r h2) (k : Run X d kc ks M pc L S h Q2) : Run X d kc ks M pc L S h Q := by
  intro E p l e R s m args below meth c H locs cells slots Z ls C h1 h2 h3 h4 hH hS hl kz
  exact k E p l e R s m args below meth c H locs cells slots Z ls C h1 h2 h3 h4 hH hS hl (fun r h9 H9 l9 c9 s9 g q => kz r h9 H9 l9 c9 s9 g (hQ _ _ q))
end RUN
