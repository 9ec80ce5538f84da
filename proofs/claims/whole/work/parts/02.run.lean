/-! ===== the worlds of this claim: a heap as a list of cells, references by their places (0: the script; k + 1: the cell k) ===== -/
abbrev AC : Type := (FieldType × vp_A) ⊕ (Nat × List Value)
abbrev AH : Type := List AC
/-- script's address, base, the classes' numbers and slots, the array classes -/
abbrev EV : Type := Nat × Nat × va_G × (FieldType → ClassId)
def e_ad (E : EV) (k : Nat) : Nat := match k with
  | 0 => E.1
  | k + 1 => E.2.1 + k
def e_v (E : EV) (v : Value) : Value := match v with
  | .ref k => .ref (e_ad E k)
  | v => v
def e_a (E : EV) (a : vp_A) : vp_A := match a with
  | (n, .inr (.inr (.inr (.inr f)))) => (n, .inr (.inr (.inr (.inr (fun j => (f j).map (e_ad E))))))
  | a => a
def e_c (E : EV) (c : AC) : va_E := match c with
  | .inl (ty, a) => .inl (E.2.2.2 ty, e_a E a)
  | .inr (ci, fs) => .inr (ci, fs.map (e_v E))
def e_h (E : EV) (h : AH) : va_W := h.mapIdx (fun k c => (E.2.1 + k, e_c E c))
def e_tys (E : EV) : List (ClassId × FieldType) := [(E.2.2.2 .int, .int), (E.2.2.2 .boolean, .boolean), (E.2.2.2 (.object "PearlMother$State"), .object "PearlMother$State")]
def e_A (E : EV) : Nat → Prop := fun q => E.2.1 ≤ q
/-- the heap holds the cells h; all that was made since the base is in h -/
def hpOK (E : EV) (s : State) (cells : Nat) (h : AH) (H : Heap) : Prop := s.heap.size + cells = E.2.1 + h.length ∧ va_P E.2.2.1 KL (e_h E h) H
def lvOK (E : EV) (nL : Nat) (ls : Array Slot) (L : List (Option Value)) : Prop := ls.size = nL ∧ L.length = nL ∧ lv_wf ls ∧ ∀ (i : Nat) (v : Value), L[i]? = some (some v) → ls[i]? = some (.val (e_v E v))
/-- what holds of the machine while a method runs -/
def Cx (X : Nat × (Nat → Int32)) (E : EV) (M : MR) (p : Program) (s : State) (m : MethodId) (args : Array Value) (meth : Method) (c : Code) : Prop :=
  p.tables.exec = Jvm.exec ∧ c.code = M.2.1 ∧ meth.sig.returnType = M.2.2.2 ∧ c.maxLocals = M.2.2.1 ∧ s.vm.findClass M.1.cls = some m.cls ∧ (∀ w ∈ TB, w.before args s = true) ∧ meth.locks = false ∧ meth.name = M.1.name ∧
  va_K E.2.2.1 KL (e_tys E) s ∧ (∀ w ∈ NW, va_Nw w s) ∧ va_AO "PearlMother$State" s ∧ va_X E.1 X.1 X.2 s s.heap ∧ E.1 < E.2.1 ∧ E.2.1 ≤ s.heap.size
/-- a frame that is about to return r -/
def RetAt (E : EV) (M : MR) (m : MethodId) (r : Option Value) (g : JFrame) : Prop :=
  ∃ (pc : Nat) (ls : Array Slot), (r = none ∧ g = F0 m pc ls [] ∧ decode M.2.1 pc = .ok (.return_, 1) ∧ M.2.2.2 = none) ∨
    (∃ (x : Int32) (ty : FieldType), r = some (.int x) ∧ g = F0 m pc ls [.int x] ∧ decode M.2.1 pc = .ok (.ireturn, 1) ∧ M.2.2.2 = some ty ∧ narrow ty (.int x) = .int x) ∨
    (∃ x : Int64, r = some (.long x) ∧ g = F0 m pc ls [.long x] ∧ decode M.2.1 pc = .ok (.lreturn, 1) ∧ M.2.2.2 = some .long)
/-- from pc on, with locals L, operands S and heap h, the method M returns with Q; d: frames that it may open; kc, ks: cells and slots that it may make -/
def Run (X : Nat × (Nat → Int32)) (d kc ks : Nat) (M : MR) (pc : Nat) (L : List (Option Value)) (S : List Value) (h : AH) (Q : Option Value → AH → Prop) : Prop :=
  ∀ (E : EV) (p : Program) (l : Launch) (e : Env) (R : Room) (s : State) (m : MethodId) (args : Array Value) (below : List Frame) (meth : Method) (c : Code) (H : Heap) (locs : List Loc) (cells slots : Nat) (Z : State → Prop) (ls : Array Slot),
    Cx X E M p s m args meth c → d ≤ R.frames → 60 * d ≤ R.locals → cells + kc ≤ R.cells → slots + ks ≤ R.slots → hpOK E s cells h H → va_S (e_A E) s.heap H locs → lvOK E M.2.2.1 ls L →
    (∀ (r : Option Value) (h' : AH) (H' : Heap) (locs' : List Loc) (cells' slots' : Nat) (g : JFrame), Q r h' → RetAt E M m r g → hpOK E s cells' h' H' → va_S (e_A E) s.heap H' locs' → cells' ≤ cells + kc → slots' ≤ slots + ks → W p l e R s m args below meth c H' locs' cells' slots' Z g) →
    W p l e R s m args below meth c H locs cells slots Z (F0 m pc ls (S.map (e_v E)))
/-- an instruction: its length, the next place -/
def DI (M : MR) (pc : Nat) (i : Instr) (len nx : Nat) : Prop := decode M.2.1 pc = .ok (i, len) ∧ pc + len = nx
/-- a branch: its length, the next place, the target -/
def DJ (M : MR) (pc : Nat) (i : Instr) (off : Int) (len nx tgt : Nat) : Prop := decode M.2.1 pc = .ok (i, len) ∧ pc + len = nx ∧ (pc : Int) + off = (tgt : Int)
theorem e_h_at {E : EV} {h : AH} {k : Nat} {c : AC} (hk : h[k]? = some c) : (e_h E h)[k]? = some (E.2.1 + k, e_c E c) := by
  simp [e_h, List.getElem?_mapIdx, hk]
theorem e_h_set {E : EV} {h : AH} {k : Nat} {c : AC} : e_h E (h.set k c) = (e_h E h).set k (E.2.1 + k, e_c E c) := by
  apply List.ext_getElem?
  intro i
  simp only [e_h, List.getElem?_mapIdx, List.getElem?_set, List.length_mapIdx]
  by_cases hi : k = i
  · subst hi
    by_cases hl : k < h.length
    · simp [hl]
    · simp [hl]
  · simp [hi]
theorem e_h_push {E : EV} {h : AH} {c : AC} : e_h E (h ++ [c]) = e_h E h ++ [(E.2.1 + h.length, e_c E c)] := by
  simp [e_h, List.mapIdx_append]
theorem e_D {E : EV} (h : AH) : va_D (e_A E) (e_h E h) := by
  have key : ∀ (k : Nat) (q : Nat × va_E), (e_h E h)[k]? = some q → q.1 = E.2.1 + k := by
    intro k q hq
    simp only [e_h, List.getElem?_mapIdx, Option.map_eq_some_iff] at hq
    obtain ⟨c, -, rfl⟩ := hq
    rfl
  refine ⟨fun i j x y hi hj hxy => ?_, fun k q hq => ?_⟩
  · have h1 := key i x hi
    have h2 := key j y hj
    omega
  · have h1 := key k q hq
    show E.2.1 ≤ q.1
    omega
theorem lv_of {E : EV} {nL : Nat} {ls : Array Slot} {L : List (Option Value)} (h : lvOK E nL ls L) {i : Nat} {v : Value} (hi : L[i]? = some (some v)) : ls[i]? = some (.val (e_v E v)) := h.2.2.2 i v hi
/-- the listed values, for the kit -/
def lvL (E : EV) (L : List (Option Value)) : List (Nat × Value) := (List.range L.length).filterMap (fun i => match L[i]? with
  | some (some v) => some (i, e_v E v)
  | _ => none)
theorem lvL_mem {E : EV} {L : List (Option Value)} {i : Nat} {v : Value} (h : L[i]? = some (some v)) : (i, e_v E v) ∈ lvL E L := by
  refine List.mem_filterMap.mpr ⟨i, List.mem_range.mpr (List.getElem?_eq_some_iff.mp h).1, ?_⟩
  simp [h]
theorem lvL_has {E : EV} {nL : Nat} {ls : Array Slot} {L : List (Option Value)} (h : lvOK E nL ls L) : lv_has ls nL (lvL E L) := by
  refine ⟨h.1, h.2.2.1, fun q hq => ?_⟩
  obtain ⟨i, -, hi⟩ := List.mem_filterMap.mp hq
  revert hi
  split
  · rename_i v hv
    intro hi
    cases hi
    exact h.2.2.2 i v hv
  · intro hi
    cases hi
theorem e_cat (E : EV) (v : Value) : (e_v E v).category = v.category := by cases v <;> rfl
/-- nothing of two words stands right ahead of the place -/
def freeAt (L : List (Option Value)) (i : Nat) : Bool := match i with
  | 0 => true
  | i + 1 => match L[i]? with
    | some (some v) => v.category == 1
    | _ => true
theorem freeAt_ne {L : List (Option Value)} {i j : Nat} {v : Value} (h : freeAt L i = true) (hj : L[j]? = some (some v)) (hji : j + 1 = i) : ¬ v.category = 2 := by
  subst hji
  simp only [freeAt, hj] at h
  intro q
  rw [q] at h
  cases h
theorem lvOK_1 {E : EV} {nL : Nat} {ls ls' : Array Slot} {L : List (Option Value)} {i : Nat} {v : Value} (h : lvOK E nL ls L) (hf : freeAt L i = true) (hi : i < nL)
    (h' : lv_has ls' nL ((i, e_v E v) :: (lvL E L).filter (fun q => !(q.1 == i) && !(q.1 + 1 == i && q.2.category == 2)))) : lvOK E nL ls' (L.set i (some v)) := by
  refine ⟨h'.1, by simp [h.2.1], h'.2.1, fun j w hj => ?_⟩
  by_cases hji : j = i
  · subst hji
    rw [List.getElem?_set_self (by rw [h.2.1]; exact hi)] at hj
    cases hj
    exact h'.2.2 _ List.mem_cons_self
  · rw [List.getElem?_set_ne (Ne.symm hji)] at hj
    refine h'.2.2 (j, e_v E w) (List.mem_cons_of_mem _ (List.mem_filter.mpr ⟨lvL_mem hj, ?_⟩))
    by_cases hq : j + 1 = i
    · have := freeAt_ne hf hj hq
      simp [hji, hq, e_cat, this]
    · simp [hji, hq]
theorem lvOK_2 {E : EV} {nL : Nat} {ls ls' : Array Slot} {L : List (Option Value)} {i : Nat} {v : Value} (h : lvOK E nL ls L) (hf : freeAt L i = true) (hi : i + 1 < nL)
    (h' : lv_has ls' nL ((i, e_v E v) :: (lvL E L).filter (fun q => !(q.1 == i) && (!(q.1 == i + 1) && !(q.1 + 1 == i && q.2.category == 2))))) : lvOK E nL ls' ((L.set i (some v)).set (i + 1) none) := by
  refine ⟨h'.1, by simp [h.2.1], h'.2.1, fun j w hj => ?_⟩
  by_cases hj1 : j = i + 1
  · subst hj1
    rw [List.getElem?_set_self (by simp [h.2.1]; omega)] at hj
    cases hj
  · rw [List.getElem?_set_ne (Ne.symm hj1)] at hj
    by_cases hji : j = i
    · subst hji
      rw [List.getElem?_set_self (by rw [h.2.1]; omega)] at hj
      cases hj
      exact h'.2.2 _ List.mem_cons_self
    · rw [List.getElem?_set_ne (Ne.symm hji)] at hj
      refine h'.2.2 (j, e_v E w) (List.mem_cons_of_mem _ (List.mem_filter.mpr ⟨lvL_mem hj, ?_⟩))
      by_cases hq : j + 1 = i
      · have := freeAt_ne hf hj hq
        simp [hji, hj1, hq, e_cat, this]
      · simp [hji, hj1, hq]
