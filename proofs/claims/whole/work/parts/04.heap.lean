/-! ===== rows for Run: fields and arrays ===== -/
theorem kl_in {ci : Nat} {C : String} {T : u_T} {N : Nat} (h : KL[ci]? = some (C, T, N)) : (∀ w ∈ u_ws C T N, w ∈ TB) ∧ (∃ ty : Nat → FieldType, ∀ k, k < N → parseFieldDescriptor (T k).2.2.1 = some (ty k)) ∧ ∀ a, a < N → ∀ b, b < N → a ≠ b → (T a).2.1 ≠ (T b).2.1 := by
  match ci, h with
  | 0, h => cases h; exact ⟨Ci_Ac, ⟨_, Ck_Ac⟩, Cn_Ac⟩
  | 1, h => cases h; exact ⟨Ci_Co, ⟨_, Ck_Co⟩, Cn_Co⟩
  | 2, h => cases h; exact ⟨Ci_Gi, ⟨_, Ck_Gi⟩, Cn_Gi⟩
  | 3, h => cases h; exact ⟨Ci_Mo, ⟨_, Ck_Mo⟩, Cn_Mo⟩
  | 4, h => cases h; exact ⟨Ci_St, ⟨_, Ck_St⟩, Cn_St⟩
  | 5, h => cases h; exact ⟨Ci_Te, ⟨_, Ck_Te⟩, Cn_Te⟩
  | 6, h => cases h; exact ⟨Ci_Tu, ⟨_, Ck_Tu⟩, Cn_Tu⟩
  | 7, h => cases h; exact ⟨Ci_PM, ⟨_, Ck_PM⟩, Cn_PM⟩
  | 8, h => cases h; exact ⟨Ci_Rf, ⟨_, Ck_Rf⟩, Cn_Rf⟩
  | k + 9, h => simp [KL] at h
/-- a field's link of a class: the object's class, the place of the field, its type, whether it is final -/
def FL (own : String) (idx ci slot : Nat) (ty : FieldType) (fin : Bool) : Prop := ∃ (C : String) (T : u_T) (N : Nat), KL[ci]? = some (C, T, N) ∧ slot < N ∧ (T slot).1 = C ∧ Cond.fieldLink own idx C (T slot).2.1 (T slot).2.2.1 ∈ TB ∧ parseFieldDescriptor (T slot).2.2.1 = some ty ∧ (T slot).2.2.2 = fin
section RUNH
variable {X : Nat × (Nat → Int32)} {d kc ks : Nat} {M : MR} {pc nx tgt : Nat} {L : List (Option Value)} {S : List Value} {h : AH} {Q : Option Value → AH → Prop}
theorem Cx.ts {E : EV} {p : Program} {s : State} {m : MethodId} {args : Array Value} {meth : Method} {c : Code} (C : Cx X E M p s m args meth c) : ∀ w ∈ TB, w.before args s = true := C.2.2.2.2.2.1
theorem Cx.own {E : EV} {p : Program} {s : State} {m : MethodId} {args : Array Value} {meth : Method} {c : Code} (C : Cx X E M p s m args meth c) : s.vm.findClass M.1.cls = some m.cls := C.2.2.2.2.1
theorem Cx.K {E : EV} {p : Program} {s : State} {m : MethodId} {args : Array Value} {meth : Method} {c : Code} (C : Cx X E M p s m args meth c) : va_K E.2.2.1 KL (e_tys E) s := C.2.2.2.2.2.2.2.2.1
theorem Cx.hA {E : EV} {p : Program} {s : State} {m : MethodId} {args : Array Value} {meth : Method} {c : Code} (C : Cx X E M p s m args meth c) : ∀ q, s.heap.size ≤ q → e_A E q := fun q h => Nat.le_trans C.2.2.2.2.2.2.2.2.2.2.2.2.2 h
theorem hpOK.set {E : EV} {s : State} {cells : Nat} {H1 : Heap} {k : Nat} {c : AC} (hs : s.heap.size + cells = E.2.1 + h.length) (hP : va_P E.2.2.1 KL ((e_h E h).set k (E.2.1 + k, e_c E c)) H1) : hpOK E s cells (h.set k c) H1 := ⟨by rw [List.length_set]; exact hs, by rw [e_h_set]; exact hP⟩
theorem Run.getf {idx ci slot k : Nat} {ty : FieldType} {fin : Bool} {fs : List Value} {v : Value} (hd : DI M pc (.getfield idx) 3 nx) (fl : FL M.1.cls idx ci slot ty fin) (hk : h[k]? = some (.inr (ci, fs))) (hv : fs[slot]? = some v) (kk : Run X d kc ks M nx L (v :: S) h Q) : Run X d kc ks M pc L (.ref (k + 1) :: S) h Q := by
  obtain ⟨hd, rfl⟩ := hd
  obtain ⟨C0, T, N, hc, hs, hC, hlk, -, -⟩ := fl
  intro E p l e R s m args below meth c H locs cells slots Z ls C h1 h2 h3 h4 hH hS hl kz
  exact va_get (D := E.2.2.1) (cl := KL) C.1 C.2.1 C.ts (kl_in hc).1 C.own C.K hH.2 k (e_h_at hk) hc slot hs (C.ts _ hlk) (by rw [hC]; exact fun _ q => q) (by rw [List.getElem?_map, hv]; rfl) hd (kk E p l e R s m args below meth c H locs cells slots Z ls C h1 h2 h3 h4 hH hS hl kz)
theorem Run.putf {idx ci slot k : Nat} {ty : FieldType} {fs : List Value} {v : Value} (hd : DI M pc (.putfield idx) 3 nx) (fl : FL M.1.cls idx ci slot ty false) (hn : ∀ E, narrow ty (e_v E v) = e_v E v) (hf : ∀ E, fits ty (e_v E v) = true) (hk : h[k]? = some (.inr (ci, fs))) (hsl : slot < fs.length) (kk : Run X d kc ks M nx L S (h.set k (.inr (ci, fs.set slot v))) Q) : Run X d kc ks M pc L (v :: .ref (k + 1) :: S) h Q := by
  obtain ⟨hd, rfl⟩ := hd
  obtain ⟨C0, T, N, hc, hs, hC, hlk, hty, hfin⟩ := fl
  obtain ⟨q1, ⟨tyf, q2⟩, q3⟩ := kl_in hc
  intro E p l e R s m args below meth c H locs cells slots Z ls C h1 h2 h3 h4 hH hS hl kz
  refine va_put (D := E.2.2.1) (cl := KL) C.1 C.2.1 C.ts q1 tyf q2 q3 C.own C.K hH.2 (e_D h) hS k (e_h_at hk) hc slot hs (C.ts _ hlk) (by rw [hC]; exact fun _ q => q) hfin hty (hn E) (hf E) (by simpa using hsl) hd (fun H1 locs1 hP1 _ hS1 => ?_)
  rw [← List.map_set] at hP1
  exact kk E p l e R s m args below meth c H1 locs1 cells slots Z ls C h1 h2 h3 h4 (hpOK.set hH.1 hP1) hS1 hl kz
theorem Run.putF {idx ci slot k : Nat} {ty : FieldType} {fs : List Value} {v : Value} (hd : DI M pc (.putfield idx) 3 nx) (fl : FL M.1.cls idx ci slot ty true) (hn : ∀ E, narrow ty (e_v E v) = e_v E v) (hf : ∀ E, fits ty (e_v E v) = true) (hi : M.1.name = "<init>") (hcl : (KL[ci]?).map (fun q => q.1) = some M.1.cls) (hk : h[k]? = some (.inr (ci, fs))) (hsl : slot < fs.length) (kk : Run X d kc ks M nx L S (h.set k (.inr (ci, fs.set slot v))) Q) : Run X d kc ks M pc L (v :: .ref (k + 1) :: S) h Q := by
  obtain ⟨hd, rfl⟩ := hd
  obtain ⟨C0, T, N, hc, hs, hC, hlk, hty, hfin⟩ := fl
  obtain ⟨q1, ⟨tyf, q2⟩, q3⟩ := kl_in hc
  rw [hc] at hcl
  have hcl2 : C0 = M.1.cls := Option.some.inj hcl
  intro E p l e R s m args below meth c H locs cells slots Z ls C h1 h2 h3 h4 hH hS hl kz
  refine va_putF (D := E.2.2.1) (cl := KL) C.1 C.2.1 C.ts q1 tyf q2 q3 C.own C.K hH.2 (e_D h) hS k (e_h_at hk) hc slot hs (C.ts _ hlk) (by rw [hC]; exact fun _ q => q) hfin (C.2.2.2.2.2.2.2.1.trans hi) (hC.trans hcl2) hty (hn E) (hf E) (by simpa using hsl) hd (fun H1 locs1 hP1 _ hS1 => ?_)
  rw [← List.map_set] at hP1
  exact kk E p l e R s m args below meth c H1 locs1 cells slots Z ls C h1 h2 h3 h4 (hpOK.set hH.1 hP1) hS1 hl kz
theorem Run.iald {k n : Nat} {f : Nat → Int32} {i : Int32} (hd : DI M pc .iaload 1 nx) (hk : h[k]? = some (.inl (.int, n, .inl f))) (hi : vp_in i n) (kk : Run X d kc ks M nx L (.int (f i.toNatClampNeg) :: S) h Q) : Run X d kc ks M pc L (.int i :: .ref (k + 1) :: S) h Q := by
  obtain ⟨hd, rfl⟩ := hd
  intro E p l e R s m args below meth c H locs cells slots Z ls C h1 h2 h3 h4 hH hS hl kz
  exact va_iald (D := E.2.2.1) (cl := KL) C.1 C.2.1 C.K hH.2 k 0 (e_h_at hk) rfl hi hd (kk E p l e R s m args below meth c H locs cells slots Z ls C h1 h2 h3 h4 hH hS hl kz)
theorem Run.zald {k n : Nat} {f : Nat → Int32} {i : Int32} (hd : DI M pc .baload 1 nx) (hk : h[k]? = some (.inl (.boolean, n, .inl f))) (hi : vp_in i n) (kk : Run X d kc ks M nx L (.int (f i.toNatClampNeg) :: S) h Q) : Run X d kc ks M pc L (.int i :: .ref (k + 1) :: S) h Q := by
  obtain ⟨hd, rfl⟩ := hd
  intro E p l e R s m args below meth c H locs cells slots Z ls C h1 h2 h3 h4 hH hS hl kz
  exact va_zald (D := E.2.2.1) (cl := KL) C.1 C.2.1 C.K hH.2 k 1 (e_h_at hk) rfl hi hd (kk E p l e R s m args below meth c H locs cells slots Z ls C h1 h2 h3 h4 hH hS hl kz)
theorem Run.aald {k n r : Nat} {f : Nat → Option Nat} {i : Int32} (hd : DI M pc .aaload 1 nx) (hk : h[k]? = some (.inl (.object "PearlMother$State", n, .inr (.inr (.inr (.inr f)))))) (hi : vp_in i n) (hr : f i.toNatClampNeg = some r) (kk : Run X d kc ks M nx L (.ref r :: S) h Q) : Run X d kc ks M pc L (.int i :: .ref (k + 1) :: S) h Q := by
  obtain ⟨hd, rfl⟩ := hd
  intro E p l e R s m args below meth c H locs cells slots Z ls C h1 h2 h3 h4 hH hS hl kz
  refine va_aldq (D := E.2.2.1) (cl := KL) (C := "PearlMother$State") C.1 C.2.1 C.K hH.2 k 2 (e_h_at hk) rfl hi hd ?_
  have := kk E p l e R s m args below meth c H locs cells slots Z ls C h1 h2 h3 h4 hH hS hl kz
  rw [hr]
  exact this
theorem Run.iast {k n : Nat} {f : Nat → Int32} {i x : Int32} (hd : DI M pc .iastore 1 nx) (hk : h[k]? = some (.inl (.int, n, .inl f))) (hi : vp_in i n) (kk : Run X d kc ks M nx L S (h.set k (.inl (.int, n, .inl (upd f i.toNatClampNeg x)))) Q) : Run X d kc ks M pc L (.int x :: .int i :: .ref (k + 1) :: S) h Q := by
  obtain ⟨hd, rfl⟩ := hd
  intro E p l e R s m args below meth c H locs cells slots Z ls C h1 h2 h3 h4 hH hS hl kz
  exact va_iast (D := E.2.2.1) (cl := KL) C.1 C.2.1 C.K hH.2 (e_D h) hS k 0 (e_h_at hk) rfl hi hd (fun H1 locs1 hP1 _ hS1 => kk E p l e R s m args below meth c H1 locs1 cells slots Z ls C h1 h2 h3 h4 (hpOK.set (c := .inl (.int, n, .inl (upd f i.toNatClampNeg x))) hH.1 hP1) hS1 hl kz)
theorem Run.zast {k n : Nat} {f : Nat → Int32} {i x : Int32} (hd : DI M pc .bastore 1 nx) (hk : h[k]? = some (.inl (.boolean, n, .inl f))) (hi : vp_in i n) (hx : vp_nar .boolean x = x) (kk : Run X d kc ks M nx L S (h.set k (.inl (.boolean, n, .inl (upd f i.toNatClampNeg x)))) Q) : Run X d kc ks M pc L (.int x :: .int i :: .ref (k + 1) :: S) h Q := by
  obtain ⟨hd, rfl⟩ := hd
  intro E p l e R s m args below meth c H locs cells slots Z ls C h1 h2 h3 h4 hH hS hl kz
  refine va_zast (D := E.2.2.1) (cl := KL) C.1 C.2.1 C.K hH.2 (e_D h) hS k 1 (e_h_at hk) rfl hi hd (fun H1 locs1 hP1 _ hS1 => ?_)
  rw [hx] at hP1
  exact kk E p l e R s m args below meth c H1 locs1 cells slots Z ls C h1 h2 h3 h4 (hpOK.set (c := .inl (.boolean, n, .inl (upd f i.toNatClampNeg x))) hH.1 hP1) hS1 hl kz
theorem Run.aast {k n r ci : Nat} {fs : List Value} {f : Nat → Option Nat} {i : Int32} (hd : DI M pc .aastore 1 nx) (hk : h[k]? = some (.inl (.object "PearlMother$State", n, .inr (.inr (.inr (.inr f)))))) (hr : h[r]? = some (.inr (4, fs))) (hi : vp_in i n) (kk : Run X d kc ks M nx L S (h.set k (.inl (.object "PearlMother$State", n, .inr (.inr (.inr (.inr (va_up f i.toNatClampNeg (some (r + 1)))))))) ) Q) : Run X d kc ks M pc L (.ref (r + 1) :: .int i :: .ref (k + 1) :: S) h Q := by
  obtain ⟨hd, rfl⟩ := hd
  intro E p l e R s m args below meth c H locs cells slots Z ls C h1 h2 h3 h4 hH hS hl kz
  refine va_astq (D := E.2.2.1) (cl := KL) C.1 C.2.1 C.K hH.2 (e_D h) hS k 2 r 4 (e_h_at hk) (r := (CN_St, CT_St, 5)) rfl (e_h_at hr) rfl hi hd (fun H1 locs1 hP1 _ hS1 => ?_)
  refine kk E p l e R s m args below meth c H1 locs1 cells slots Z ls C h1 h2 h3 h4 (hpOK.set hH.1 ?_) hS1 hl kz
  have e1 : (fun j => (va_up f i.toNatClampNeg (some (r + 1)) j).map (e_ad E)) = va_up (fun j => (f j).map (e_ad E)) i.toNatClampNeg (some (E.2.1 + r)) := by
    funext j
    simp only [va_up]
    split
    · rfl
    · rfl
  show va_P E.2.2.1 KL ((e_h E h).set k (E.2.1 + k, .inl (E.2.2.2 (.object "PearlMother$State"), n, .inr (.inr (.inr (.inr (fun j => (va_up f i.toNatClampNeg (some (r + 1)) j).map (e_ad E)))))))) H1
  rw [e1]
  exact hP1
theorem Run.alen {k n : Nat} {f : Nat → Int32} {v : Int32} (hd : DI M pc .arraylength 1 nx) (hk : h[k]? = some (.inl (.int, n, .inl f))) (hv : Int32.ofNat n = v) (kk : Run X d kc ks M nx L (.int v :: S) h Q) : Run X d kc ks M pc L (.ref (k + 1) :: S) h Q := by
  obtain ⟨hd, rfl⟩ := hd
  intro E p l e R s m args below meth c H locs cells slots Z ls C h1 h2 h3 h4 hH hS hl kz
  exact va_alen (D := E.2.2.1) (cl := KL) C.1 C.2.1 C.K hH.2 k 0 (e_h_at hk) (ty := .int) rfl hv hd (kk E p l e R s m args below meth c H locs cells slots Z ls C h1 h2 h3 h4 hH hS hl kz)
theorem Run.sld {i : Int32} (hd : DI M pc .iaload 1 nx) (hi : vp_in i X.1) (kk : Run X d kc ks M nx L (.int (X.2 i.toNatClampNeg) :: S) h Q) : Run X d kc ks M pc L (.int i :: .ref 0 :: S) h Q := by
  obtain ⟨hd, rfl⟩ := hd
  intro E p l e R s m args below meth c H locs cells slots Z ls C h1 h2 h3 h4 hH hS hl kz
  have hb : E.1 < E.2.1 := C.2.2.2.2.2.2.2.2.2.2.2.2.1
  exact va_sld C.1 C.2.1 C.2.2.2.2.2.2.2.2.2.2.2.1 (Nat.lt_of_lt_of_le hb C.2.2.2.2.2.2.2.2.2.2.2.2.2) (A := e_A E) (Nat.not_le.mpr hb) hS hi hd (kk E p l e R s m args below meth c H locs cells slots Z ls C h1 h2 h3 h4 hH hS hl kz)
theorem Run.slen (hd : DI M pc .arraylength 1 nx) (kk : Run X d kc ks M nx L (.int (nI X.1) :: S) h Q) : Run X d kc ks M pc L (.ref 0 :: S) h Q := by
  obtain ⟨hd, rfl⟩ := hd
  intro E p l e R s m args below meth c H locs cells slots Z ls C h1 h2 h3 h4 hH hS hl kz
  have hb : E.1 < E.2.1 := C.2.2.2.2.2.2.2.2.2.2.2.2.1
  exact va_slen C.1 C.2.1 C.2.2.2.2.2.2.2.2.2.2.2.1 (Nat.lt_of_lt_of_le hb C.2.2.2.2.2.2.2.2.2.2.2.2.2) (A := e_A E) (Nat.not_le.mpr hb) hS hd (kk E p l e R s m args below meth c H locs cells slots Z ls C h1 h2 h3 h4 hH hS hl kz)
end RUNH
