/-! ===== rows for Run: what is made, calls ===== -/
def enA (vs : List Value) : List (Option Value) := vs.flatMap (fun v => if v.category = 2 then [some v, none] else [some v])
def enL (n : Nat) (vs : List Value) : List (Option Value) := enA vs ++ List.replicate (n - (enA vs).length) none
def Call (X : Nat × (Nat → Int32)) (d kc ks : Nat) (M : MR) (As : List Value) (h : AH) (Q : Option Value → AH → Prop) : Prop := Run X d kc ks M 0 (enL M.2.2.1 As) [] h Q
theorem enA_args (E : EV) : ∀ (vs : List Value) (off i : Nat) (v : Value), (enA vs)[i]? = some (some v) → (off + i, e_v E v) ∈ lv_args off (vs.map (e_v E))
  | [], off, i, v, h => by simp [enA] at h
  | w :: vs, off, i, v, h => by
    have ih := enA_args E vs
    by_cases hw : w.category = 2
    · have h' : (some w :: none :: enA vs)[i]? = some (some v) := by simpa [enA, hw] using h
      have e1 : lv_args off ((w :: vs).map (e_v E)) = (off, e_v E w) :: lv_args (off + 2) (vs.map (e_v E)) := by simp [lv_args, e_cat, hw]
      rw [e1]
      match i, h' with
      | 0, h' => cases h'; exact List.mem_cons_self
      | 1, h' => simp at h'
      | i + 2, h' =>
        have := ih (off + 2) i v (by simpa using h')
        rw [show off + 2 + i = off + (i + 2) by omega] at this
        exact List.mem_cons_of_mem _ this
    · have h' : (some w :: enA vs)[i]? = some (some v) := by simpa [enA, hw] using h
      have e1 : lv_args off ((w :: vs).map (e_v E)) = (off, e_v E w) :: lv_args (off + 1) (vs.map (e_v E)) := by simp [lv_args, e_cat, hw]
      rw [e1]
      match i, h' with
      | 0, h' => cases h'; exact List.mem_cons_self
      | i + 1, h' =>
        have := ih (off + 1) i v (by simpa using h')
        rw [show off + 1 + i = off + (i + 1) by omega] at this
        exact List.mem_cons_of_mem _ this
theorem enA_len (E : EV) (vs : List Value) : (lg_sl (vs.map (e_v E))).length = (enA vs).length := by
  induction vs with
  | nil => rfl
  | cons w vs ih =>
    by_cases hw : w.category = 2
    · simp [lg_sl, enA, e_cat, hw] at ih ⊢
      exact ih
    · simp [lg_sl, enA, e_cat, hw] at ih ⊢
      exact ih
theorem lvOK_entry {E : EV} {n : Nat} {As : List Value} {ls : Array Slot} (hn : (enA As).length ≤ n) (hl : lv_has ls n (lv_args 0 (As.map (e_v E)))) : lvOK E n ls (enL n As) := by
  refine ⟨hl.1, by simp [enL]; omega, hl.2.1, fun i v hi => ?_⟩
  by_cases hlt : i < (enA As).length
  · rw [enL, List.getElem?_append_left hlt] at hi
    have := enA_args E As 0 i v hi
    rw [Nat.zero_add] at this
    exact hl.2.2 _ this
  · rw [enL, List.getElem?_append_right (by omega), List.getElem?_replicate] at hi
    split at hi
    · cases hi
    · cases hi
theorem fresh_eq {E : EV} {h : AH} {q : Nat} {e : va_E} (hD : va_D (e_A E) (e_h E h ++ [(q, e)])) (hq : q ≤ E.2.1 + h.length) : q = E.2.1 + h.length := by
  have hlen : (e_h E h).length = h.length := by simp [e_h]
  have h1 : (e_h E h ++ [(q, e)])[h.length]? = some (q, e) := by
    rw [List.getElem?_append_right (by omega), hlen, Nat.sub_self]; rfl
  have hB : E.2.1 ≤ q := hD.2 _ _ h1
  rcases Nat.lt_or_ge q (E.2.1 + h.length) with hlt | hge
  · exfalso
    have hj : q - E.2.1 < h.length := by omega
    have h2 : (e_h E h ++ [(q, e)])[q - E.2.1]? = some (E.2.1 + (q - E.2.1), e_c E h[q - E.2.1]) := by
      rw [List.getElem?_append_left (by omega)]
      exact e_h_at (List.getElem?_eq_getElem hj)
    have := hD.1 _ _ _ _ h1 h2 (by show q = _; omega)
    omega
  · omega
/-- a class that is made: its link, its number, its first fields -/
def NL (own : String) (idx ci : Nat) (fs : List Value) : Prop := ∃ (C : String) (T : u_T) (N : Nat) (ty : Nat → FieldType), KL[ci]? = some (C, T, N) ∧ Cond.classLink own idx C ∈ TB ∧ Cond.instantiable C N ∈ TB ∧ Cond.initialized C ∈ TB ∧ (∀ k, k < N → parseFieldDescriptor (T k).2.2.1 = some (ty k)) ∧ (∀ j, j < N → defaultValue (ty j) = vp_V fs j) ∧ fs.length = N ∧ ∀ E, fs.map (e_v E) = fs
def CM (M : MR) (n : Nat) : Prop := Cond.code M.1 M.2.1 M.2.2.1 M.2.2.2 ∈ TB ∧ Cond.initialized M.1.cls ∈ TB ∧ (M.1.cls ≠ "java/lang/invoke/MethodHandle" ∧ M.1.cls ≠ "java/lang/invoke/VarHandle" ∧ (parseMethodDescriptor M.1.desc).map (fun d => d.parameters.length) = some n) ∧ M.2.2.1 ≤ 40 ∧ plainName M.1.cls = true
def LK (own : String) (idx : Nat) (M : MR) : Prop := Cond.methodLink own idx M.1 ∈ TB ∨ ∃ host, Cond.methodLinkNest own idx M.1 host ∈ NW
def WS (M : MR) : List Cond := Cond.code M.1 M.2.1 M.2.2.1 M.2.2.2 :: TB
def RM (d mc ms : Nat) : Room := { frames := d, cells := mc, slots := ms, locals := 60 * d }
def PcR (X : Nat × (Nat → Int32)) (E : EV) (As : List Value) (h : AH) : Array Value → State → Prop := fun a U => a = (As.map (e_v E)).toArray ∧ U.heap.size = E.2.1 + h.length ∧ va_P E.2.2.1 KL (e_h E h) U.heap ∧ va_K E.2.2.1 KL (e_tys E) U ∧ (∀ w ∈ NW, va_Nw w U) ∧ va_AO "PearlMother$State" U ∧ va_X E.1 X.1 X.2 U U.heap ∧ E.1 < E.2.1
def QcR (E : EV) (h : AH) (mc : Nat) (Q1 : Option Value → AH → Prop) : Array Value → State → Outcome → State → Prop := fun _ st o t => (∃ (r : Option Value) (h1 : AH), o = .returned (r.map (e_v E)) ∧ Q1 r h1 ∧ va_P E.2.2.1 KL (e_h E h1) t.heap ∧ h.length ≤ h1.length ∧ h1.length ≤ h.length + mc) ∧ va_F (e_A E) st t
theorem nw_tab {w : Cond} (h : w ∈ NW) : w.onTables = true := by
  have h1 : NW.all (fun w => w.onTables) = true := by decide +kernel
  exact List.all_eq_true.mp h1 w h
theorem nw_nest {w : Cond} (h : w ∈ NW) : ∃ a i x b, w = .methodLinkNest a i x b := by
  have h1 : NW.all (fun w => match w with | .methodLinkNest _ _ _ _ => true | _ => false) = true := by decide +kernel
  have h2 := List.all_eq_true.mp h1 w h
  revert h2
  split
  · intro _; exact ⟨_, _, _, _, rfl⟩
  · intro q; cases q
theorem tb_good (M : MR) (h : Cond.code M.1 M.2.1 M.2.2.1 M.2.2.2 ∈ TB) : GoodIn TB (WS M) := by
  intro w hw
  have hm : w ∈ TB := by
    rcases List.mem_cons.mp hw with e | e
    · rw [e]; exact h
    · exact e
  exact ⟨hm, good_of_word (List.mem_filter.mp hm).2⟩
section RUNC
variable {X : Nat × (Nat → Int32)} {d kc ks mc ms : Nat} {M M' : MR} {pc nx n : Nat} {L : List (Option Value)} {S As : List Value} {h : AH} {Q Q1 : Option Value → AH → Prop}
theorem PcR.blind {E : EV} : FrameBlind (PcR X E As h) := by
  intro a U g mk q
  obtain ⟨q1, q2, q3, q4, q5, q6, q7, q8⟩ := q
  exact ⟨q1, q2, q3, va_K.moved (u := U) (U := U.calling g mk a) (Vm.Alike.refl U.vm) q4, fun w hw => va_Nw.same (u := U) (U := U.calling g mk a) (nw_tab hw) rfl (q5 w hw), va_AO.moved (u := U) (U := U.calling g mk a) (Vm.Alike.refl U.vm) q6, va_X.moved (u := U) (U := U.calling g mk a) (Vm.Alike.refl U.vm) q7, q8⟩
theorem PcR.at {E : EV} {p : Program} {s : State} {m : MethodId} {args : Array Value} {meth : Method} {c : Code} {H : Heap} {locs : List Loc} (C : Cx X E M p s m args meth c) (hz : H.size = E.2.1 + h.length) (hP : va_P E.2.2.1 KL (e_h E h) H) (hS : va_S (e_A E) s.heap H locs) : ∀ U : State, U.heap = H → s.WarmedH U.vm → PcR X E As h (As.map (e_v E)).toArray U := by
  obtain ⟨-, -, -, -, -, -, -, -, c9, c10, c11, c12, c13, c14⟩ := C
  intro U hU hW
  have hk : H[E.1]? = s.heap[E.1]? := hS.2.1 _ (Nat.lt_of_lt_of_le c13 c14) (Nat.not_le.mpr c13)
  refine ⟨rfl, by rw [hU]; exact hz, by rw [hU]; exact hP, va_K.moved hW.alike c9, fun w hw => ?_, va_AO.moved hW.alike c11, ?_, c13⟩
  · obtain ⟨a, i, x, b, rfl⟩ := nw_nest hw
    exact va_Nw.warmM hW (c10 _ hw)
  · rw [hU]
    exact va_X.moved hW.alike (va_X.kept c12 hk)
theorem met_of (cm : CM M' n) (hln : (enA As).length ≤ M'.2.2.1) (body : Call X d mc ms M' As h Q1) (E : EV) (l : Launch) : Met l M'.1 (WS M') (RM d mc ms) (PcR X E As h) (QcR E h mc Q1) mc ms (e_A E) := by
  refine Met.ofW (cc := M'.2.1) (maxL := M'.2.2.1) (ret := M'.2.2.2) cm.2.2.2.2 rfl ?_
  intro p e s m args below meth c s₁ B hml hv
  obtain ⟨rfl, hsz, hP, hK, hN, hAO, hX, hb⟩ := hv
  have hts := atoms_spec (ws := WS M') B.pre
  have hlk : meth.locks = false := B.notSynchronized
  have C : Cx X E M' p s m (As.map (e_v E)).toArray meth c := ⟨B.exec, B.bytes, B.returns, hml, findClass_of_methodNamed B.named, fun w hw => hts w (List.mem_cons_of_mem _ hw), hlk, (name_of_methodNamed B.named B.method).1, hK, hN, hAO, hX, hb, by omega⟩
  have hl := lv_entry (As.map (e_v E)) (n := M'.2.2.1) (by rw [enA_len]; exact hln)
  rw [lg_entry_eq]
  refine body E p l e (RM d mc ms) s m _ below meth c s.heap [] 0 0 _ _ C (Nat.le_refl _) (Nat.le_refl _) (by show 0 + mc ≤ mc; omega) (by show 0 + ms ≤ ms; omega) ⟨by omega, hP⟩ va_S.rf (lvOK_entry hln hl) (fun r h' H' locs' cells' slots' g hq hr hH hS hc hs => ?_)
  refine W.widen (k := mc) (n := ms) (by omega) (by omega) ?_
  have hQ : ∀ t : State, t.heap = H' → QcR E h mc Q1 (As.map (e_v E)).toArray s (.returned (r.map (e_v E))) t := fun t ht => by
    have e1 := hH.1
    exact ⟨⟨r, h', rfl, hq, by rw [ht]; exact hH.2, by omega, by omega⟩, hS.F ht⟩
  obtain ⟨pc, ls, hr⟩ := hr
  rcases hr with ⟨rfl, rfl, hd, hrt⟩ | ⟨x, ty, rfl, rfl, hd, hrt, hn⟩ | ⟨x, rfl, rfl, hd, hrt⟩
  · exact W.vret B.exec B.bytes (B.returns.trans hrt) (fun t ht _ => hQ t ht) hS.2.2 hd hlk
  · exact W.zret B.exec B.bytes (B.returns.trans hrt) hn (fun t ht _ => hQ t ht) hS.2.2 hd hlk
  · exact W.lret B.exec B.bytes (B.returns.trans hrt) (fun t ht _ => hQ t ht) hS.2.2 hd hlk
theorem run_go {E : EV} {p : Program} {l : Launch} {e : Env} {R : Room} {s : State} {m : MethodId} {args : Array Value} {below : List Frame} {meth : Method} {c : Code} {H : Heap} {locs : List Loc} {cells slots : Nat} {Z : State → Prop} {ls : Array Slot} {st0 rest : List Value} {a : Array Value} (hr : va_Run p l e R s m args below meth c H locs cells slots mc ms (F0 m pc ls st0) rest (QcR E h mc Q1 a) (e_A E)) (hS : va_S (e_A E) s.heap H locs)
    (kk : ∀ (r : Option Value) (h1 : AH) (H1 : Heap) (locs1 : List Loc), Q1 r h1 → va_P E.2.2.1 KL (e_h E h1) H1 → h.length ≤ h1.length → h1.length ≤ h.length + mc → va_S (e_A E) s.heap H1 locs1 → W p l e R s m args below meth c H1 locs1 (cells + mc) (slots + ms) Z (F0 m (pc + 3) ls ((r.map (e_v E)).toList ++ rest))) : W p l e R s m args below meth c H locs cells slots Z (F0 m pc ls st0) := by
  intro T hT Y
  obtain ⟨v, st₀, t, T', L2, h0, Y', hL, e1, e2, ⟨⟨r, h1, hv, hp, hb, hl1, hl2⟩, hz, hk⟩, st⟩ := hr T hT Y
  cases hv
  rw [h0] at hz hk
  obtain ⟨t2, a1, b1⟩ := kk r h1 T'.heap (locs ++ L2) hp (by rw [e1]; exact hb) hl1 hl2 ⟨Nat.le_trans hS.1 (by rw [e1]; exact hz), fun q g1 g2 => by rw [e1, hk q (Nat.lt_of_lt_of_le g1 hS.1) g2]; exact hS.2.1 q g1 g2, fun q hq => by
    rcases List.mem_append.mp hq with g | g
    · exact hS.2.2 q g
    · exact hL q g⟩ T' rfl Y'
  exact ⟨t2, st t2 a1, b1⟩
/-- the heap's size, from the frame's own count -/
theorem W.sized {E : EV} {p : Program} {l : Launch} {e : Env} {R : Room} {s : State} {m : MethodId} {args : Array Value} {below : List Frame} {meth : Method} {c : Code} {H : Heap} {locs : List Loc} {cells slots : Nat} {Z : State → Prop} {g : JFrame} (hH : hpOK E s cells h H) (hS : va_S (e_A E) s.heap H locs) (hB : E.2.1 ≤ s.heap.size) (kk : H.size = E.2.1 + h.length → W p l e R s m args below meth c H locs cells slots Z g) : W p l e R s m args below meth c H locs cells slots Z g := by
  intro T hT Y
  have h1 : T.heap.size ≤ s.heap.size + cells := Y.same.2.2.1
  rw [hT] at h1
  have h2 := hH.1
  have h3 := hS.1
  have h4 : E.2.1 + h.length ≤ H.size := by
    rcases Nat.eq_zero_or_pos h.length with hz | hz
    · omega
    · have hj : h.length - 1 < h.length := by omega
      have := (hH.2 _ _ (e_h_at (E := E) (List.getElem?_eq_getElem hj))).lt
      have h5 : E.2.1 + (h.length - 1) < H.size := this
      omega
  exact kk (by omega) T hT Y
theorem word_ok {own : String} {idx : Nat} {E : EV} {p : Program} {R : Room} {s : State} {m : MethodId} {args : Array Value} {meth : Method} {c : Code} (C : Cx X E M p s m args meth c) (hd : d + 1 ≤ R.frames) (hd2 : 60 * (d + 1) ≤ R.locals) (cm : CM M' n) (hlk : Cond.methodLink own idx M'.1 ∈ TB) : CallB R s args own idx M'.1 M'.2.1 M'.2.2.1 M'.2.2.2 (WS M') (RM d mc ms) mc ms n :=
  callB_of n C.ts (tb_good M' cm.1) rfl rfl rfl (C.ts _ cm.2.1) (C.ts _ hlk) cm.2.2.1 ⟨hd, by have := cm.2.2.2.1; show 8 + (M'.2.2.1 + 11) + 60 * d ≤ R.locals; omega⟩
theorem word_okN {own host : String} {idx : Nat} {E : EV} {p : Program} {R : Room} {s : State} {m : MethodId} {args : Array Value} {meth : Method} {c : Code} (C : Cx X E M p s m args meth c) (hd : d + 1 ≤ R.frames) (hd2 : 60 * (d + 1) ≤ R.locals) (cm : CM M' n) (hlk : Cond.methodLinkNest own idx M'.1 host ∈ NW) : va_CN R s args own idx M'.1 host M'.2.1 M'.2.2.1 M'.2.2.2 (WS M') (RM d mc ms) mc ms n :=
  va_cnB n C.ts (tb_good M' cm.1) rfl rfl rfl (C.2.2.2.2.2.2.2.2.2.1 _ hlk) (C.ts _ cm.2.1) cm.2.2.1 ⟨hd, by have := cm.2.2.2.1; show 8 + (M'.2.2.1 + 11) + 60 * d ≤ R.locals; omega⟩
theorem e_sum (E : EV) (S : List Value) : ((S.map (e_v E)).map fun v => v.category).sum = (S.map fun v => v.category).sum := by
  simp [List.map_map, Function.comp_def, e_cat]
/-- a call of a static method -/
theorem Run.callS {idx : Nat} (hd : DI M pc (.invokestatic idx) 3 nx) (lk : LK M.1.cls idx M') (cm : CM M' n) (st : Cond.static M'.1 ∈ TB) (hn : As.length = n) (hln : (enA As).length ≤ M'.2.2.1) (hw : (S.map fun v => v.category).sum ≤ 8) (body : Call X d 0 0 M' As h Q1) (kk : ∀ r h1, Q1 r h1 → Run X (d + 1) kc ks M nx L (r.toList ++ S) h1 Q) : Run X (d + 1) kc ks M pc L (As.reverse ++ S) h Q := by
  obtain ⟨hd, rfl⟩ := hd
  intro E p l e R s m args below meth c H locs cells slots Z ls C h1 h2 h3 h4 hH hS hl kz
  refine W.sized hH hS C.2.2.2.2.2.2.2.2.2.2.2.2.2 (fun hz => ?_)
  have hM := met_of cm hln body E l
  have hpre : PreS s H (PcR X E As h) (As.map (e_v E)) := ⟨PcR.blind, PcR.at C hz hH.2 hS⟩
  have hst : (F0 m pc ls ((As.reverse ++ S).map (e_v E))).stack = (As.map (e_v E)).reverse ++ S.map (e_v E) := by simp
  have hrun : va_Run p l e R s m args below meth c H locs cells slots 0 0 (F0 m pc ls ((As.reverse ++ S).map (e_v E))) (S.map (e_v E)) (QcR E h 0 Q1 (As.map (e_v E)).toArray) (e_A E) := by
    rcases lk with lk | ⟨host, lk⟩
    · exact va_runS (As := As.map (e_v E)) (rest := S.map (e_v E)) (own := M.1.cls) (Ts := TB) ⟨C.1, C.2.1, C.2.2.2.1, C.own, C.ts⟩ hM ⟨word_ok C h1 h2 cm lk, C.ts _ st⟩ hpre rfl (by simpa using hn) hl.1 hst (lv_room (by rw [e_sum]; exact hw)) hd ⟨by omega, by omega⟩
    · exact va_runSN (As := As.map (e_v E)) (rest := S.map (e_v E)) (own := M.1.cls) (Ts := TB) ⟨C.1, C.2.1, C.2.2.2.1, C.own, C.ts⟩ hM ⟨word_okN C h1 h2 cm lk, C.ts _ st, trivial⟩ hpre rfl (by simpa using hn) hl.1 hst (lv_room (by rw [e_sum]; exact hw)) hd ⟨by omega, by omega⟩
  refine run_go hrun hS (fun r h1' H1 locs1 hq hP1 hl1 hl2 hS1 => ?_)
  have := kk r h1' hq E p l e R s m args below meth c H1 locs1 (cells + 0) (slots + 0) Z ls C h1 h2 h3 h4 ⟨by have := hH.1; omega, hP1⟩ hS1 hl kz
  rw [List.map_append] at this
  have e3 : (r.map (e_v E)).toList = r.toList.map (e_v E) := by cases r <;> rfl
  rw [e3]
  exact this
/-- a call of a method of an object -/
theorem Run.callV {idx ci k : Nat} {fs : List Value} (hd : DI M pc (.invokevirtual idx) 3 nx) (lk : LK M.1.cls idx M') (cm : CM M' n) (st : Cond.instanceMethod M'.1 ∈ TB ∧ Cond.selects M'.1.cls M'.1 M'.1 ∈ TB) (hcl : (KL[ci]?).map (fun q => q.1) = some M'.1.cls) (hk : h[k]? = some (.inr (ci, fs))) (hn : As.length = n) (hln : (enA (.ref (k + 1) :: As)).length ≤ M'.2.2.1) (hw : (S.map fun v => v.category).sum ≤ 8) (body : Call X d 0 0 M' (.ref (k + 1) :: As) h Q1) (kk : ∀ r h1, Q1 r h1 → Run X (d + 1) kc ks M nx L (r.toList ++ S) h1 Q) : Run X (d + 1) kc ks M pc L (As.reverse ++ .ref (k + 1) :: S) h Q := by
  obtain ⟨hd, rfl⟩ := hd
  intro E p l e R s m args below meth c H locs cells slots Z ls C h1 h2 h3 h4 hH hS hl kz
  refine W.sized hH hS C.2.2.2.2.2.2.2.2.2.2.2.2.2 (fun hz => ?_)
  have hM := met_of cm hln body E l
  obtain ⟨q, hq0, hq1⟩ := Option.map_eq_some_iff.mp hcl
  have hrec := va_recv C.K hH.2 hq0 (e_h_at (E := E) hk)
  rw [hq1] at hrec
  have hpre : PreV s H M'.1.cls (E.2.1 + k) (PcR X E (.ref (k + 1) :: As) h) (As.map (e_v E)) := ⟨PcR.blind, hrec, PcR.at C hz hH.2 hS⟩
  have hst : (F0 m pc ls ((As.reverse ++ .ref (k + 1) :: S).map (e_v E))).stack = (As.map (e_v E)).reverse ++ .ref (E.2.1 + k) :: S.map (e_v E) := by
    show (As.reverse ++ .ref (k + 1) :: S).map (e_v E) = _
    rw [List.map_append, List.map_cons, List.map_reverse]
    rfl
  have hrun : va_Run p l e R s m args below meth c H locs cells slots 0 0 (F0 m pc ls ((As.reverse ++ .ref (k + 1) :: S).map (e_v E))) (S.map (e_v E)) (QcR E h 0 Q1 (Value.ref (E.2.1 + k) :: As.map (e_v E)).toArray) (e_A E) := by
    rcases lk with lk | ⟨host, lk⟩
    · exact va_runV (As := As.map (e_v E)) (rest := S.map (e_v E)) (own := M.1.cls) (Ts := TB) ⟨C.1, C.2.1, C.2.2.2.1, C.own, C.ts⟩ hM ⟨word_ok C h1 h2 cm lk, C.ts _ st.1, C.ts _ st.2⟩ hpre rfl (by simpa using hn) hl.1 hst (lv_room (by rw [e_sum]; exact hw)) hd ⟨by omega, by omega⟩
    · exact va_runVN (As := As.map (e_v E)) (rest := S.map (e_v E)) (own := M.1.cls) (Ts := TB) ⟨C.1, C.2.1, C.2.2.2.1, C.own, C.ts⟩ hM ⟨word_okN C h1 h2 cm lk, C.ts _ st.1, C.ts _ st.2⟩ hpre rfl (by simpa using hn) hl.1 hst (lv_room (by rw [e_sum]; exact hw)) hd ⟨by omega, by omega⟩
  refine run_go hrun hS (fun r h1' H1 locs1 hq hP1 hl1 hl2 hS1 => ?_)
  have := kk r h1' hq E p l e R s m args below meth c H1 locs1 (cells + 0) (slots + 0) Z ls C h1 h2 h3 h4 ⟨by have := hH.1; omega, hP1⟩ hS1 hl kz
  rw [List.map_append] at this
  have e3 : (r.map (e_v E)).toList = r.toList.map (e_v E) := by cases r <;> rfl
  rw [e3]
  exact this
/-- a call of a constructor: it makes exactly mc cells -/
theorem Run.callI {idx k : Nat} (hd : DI M pc (.invokespecial idx) 3 nx) (lk : LK M.1.cls idx M') (cm : CM M' n) (st : Cond.instanceMethod M'.1 ∈ TB) (hret : M'.2.2.2 = none) (hname : M'.1.name = "<init>") (hn : As.length = n) (hln : (enA (.ref (k + 1) :: As)).length ≤ M'.2.2.1) (hw : (S.map fun v => v.category).sum ≤ 8) (body : Call X d mc ms M' (.ref (k + 1) :: As) h Q1) (hmc : ∀ r h1, Q1 r h1 → h1.length = h.length + mc) (kk : ∀ r h1, Q1 r h1 → Run X (d + 1) kc ks M nx L (r.toList ++ S) h1 Q) : Run X (d + 1) (mc + kc) (ms + ks) M pc L (As.reverse ++ .ref (k + 1) :: S) h Q := by
  obtain ⟨hd, rfl⟩ := hd
  intro E p l e R s m args below meth c H locs cells slots Z ls C h1 h2 h3 h4 hH hS hl kz
  refine W.sized hH hS C.2.2.2.2.2.2.2.2.2.2.2.2.2 (fun hz => ?_)
  have hM := met_of cm hln body E l
  have hpre : PreS s H (PcR X E (.ref (k + 1) :: As) h) (.ref (E.2.1 + k) :: As.map (e_v E)) := ⟨PcR.blind, PcR.at C hz hH.2 hS⟩
  have hst : (F0 m pc ls ((As.reverse ++ .ref (k + 1) :: S).map (e_v E))).stack = (As.map (e_v E)).reverse ++ .ref (E.2.1 + k) :: S.map (e_v E) := by
    show (As.reverse ++ .ref (k + 1) :: S).map (e_v E) = _
    rw [List.map_append, List.map_cons, List.map_reverse]
    rfl
  have hrun : va_Run p l e R s m args below meth c H locs cells slots mc ms (F0 m pc ls ((As.reverse ++ .ref (k + 1) :: S).map (e_v E))) (S.map (e_v E)) (QcR E h mc Q1 (Value.ref (E.2.1 + k) :: As.map (e_v E)).toArray) (e_A E) := by
    rcases lk with lk | ⟨host, lk⟩
    · have cw := word_ok (mc := mc) (ms := ms) C h1 h2 cm lk
      rw [hret] at cw
      exact va_runI (As := As.map (e_v E)) (rest := S.map (e_v E)) (own := M.1.cls) (Ts := TB) ⟨C.1, C.2.1, C.2.2.2.1, C.own, C.ts⟩ hM ⟨cw, hname, C.ts _ st⟩ hpre rfl (by simpa using hn) hl.1 hst (lv_room (by rw [e_sum]; exact hw)) hd ⟨by omega, by omega⟩
    · have cw := word_okN (mc := mc) (ms := ms) C h1 h2 cm lk
      rw [hret] at cw
      exact va_runIN (As := As.map (e_v E)) (rest := S.map (e_v E)) (own := M.1.cls) (Ts := TB) ⟨C.1, C.2.1, C.2.2.2.1, C.own, C.ts⟩ hM ⟨cw, hname, C.ts _ st⟩ hpre rfl (by simpa using hn) hl.1 hst (lv_room (by rw [e_sum]; exact hw)) hd ⟨by omega, by omega⟩
  refine run_go hrun hS (fun r h1' H1 locs1 hq hP1 hl1 hl2 hS1 => ?_)
  have hm := hmc r h1' hq
  have := kk r h1' hq E p l e R s m args below meth c H1 locs1 (cells + mc) (slots + ms) Z ls C h1 h2 (by omega) (by omega) ⟨by have := hH.1; omega, hP1⟩ hS1 hl (fun r2 h2 H2 l2 c2 s2 g2 a1 a2 a3 a4 a5 a6 => kz r2 h2 H2 l2 c2 s2 g2 a1 a2 a3 a4 (by omega) (by omega))
  rw [List.map_append] at this
  have e3 : (r.map (e_v E)).toList = r.toList.map (e_v E) := by cases r <;> rfl
  rw [e3]
  exact this
/-- Object's constructor -/
theorem Run.objI {idx k : Nat} (hd : DI M pc (.invokespecial idx) 3 nx) (hl1 : Cond.methodLink M.1.cls idx objectInit ∈ TB) (hw : (S.map fun v => v.category).sum ≤ 8) (kk : Run X (d + 1) kc ks M nx L S h Q) : Run X (d + 1) kc ks M pc L (.ref k :: S) h Q := by
  obtain ⟨hd, rfl⟩ := hd
  intro E p l e R s m args below meth c H locs cells slots Z ls C h1 h2 h3 h4 hH hS hl kz
  refine W.objInit C.1 C.2.1 C.own (C.ts _ hl1) (C.ts _ ob_1) (C.ts _ ob_2) rfl (by rw [C.2.2.2.1]; exact hl.1) rfl hd (by omega) ?_ ?_
  · show 2 * 0 + ((S.map (e_v E)).map fun v => v.category).sum + 12 ≤ R.locals
    rw [e_sum]
    omega
  · exact kk E p l e R s m args below meth c H locs cells slots Z ls C h1 h2 h3 h4 hH hS hl kz
theorem Run.newo {idx ci k : Nat} {fs : List Value} (hd : DI M pc (.new idx) 3 nx) (nl : NL M.1.cls idx ci fs) (hk : h.length = k) (kk : Run X d kc ks M nx L (.ref (k + 1) :: S) (h ++ [.inr (ci, fs)]) Q) : Run X d (kc + 1) (ks + fs.length) M pc L S h Q := by
  obtain ⟨hd, rfl⟩ := hd
  subst hk
  obtain ⟨C0, T, N, ty, hc, g1, g2, g3, g4, g5, rfl, g6⟩ := nl
  intro E p l e R s m args below meth c H locs cells slots Z ls C h1 h2 h3 h4 hH hS hl kz
  refine va_new (D := E.2.2.1) (cl := KL) C.1 C.2.1 C.ts (kl_in hc).1 ty g4 C.own (C.ts _ g1) (C.ts _ g2) (C.ts _ g3) C.K hH.2 (e_D h) hS C.hA hc g5 (by omega) (by omega) hd (fun q H1 hP1 hD1 hS1 => ?_)
  intro T2 hT2 Y
  have b1 : T2.heap.size ≤ s.heap.size + (cells + 1) := Y.same.2.2.1
  rw [hT2] at b1
  have b2 : q < H1.size := (hP1 _ _ (show (e_h E h ++ [(q, Sum.inr (ci, fs))])[(e_h E h).length]? = some (q, Sum.inr (ci, fs)) by rw [List.getElem?_append_right (Nat.le_refl _), Nat.sub_self]; rfl)).lt
  have b3 := hH.1
  obtain rfl := fresh_eq hD1 (by omega)
  refine kk E p l e R s m args below meth c H1 locs (cells + 1) (slots + fs.length) Z ls C h1 h2 (by omega) (by omega) ⟨by simp; omega, ?_⟩ hS1 hl (fun r2 h2 H2 l2 c2 s2 g2 a1 a2 a3 a4 a5 a6 => kz r2 h2 H2 l2 c2 s2 g2 a1 a2 a3 a4 (by omega) (by omega)) T2 hT2 Y
  rw [e_h_push]
  show va_P E.2.2.1 KL (e_h E h ++ [(E.2.1 + h.length, .inr (ci, fs.map (e_v E)))]) H1
  rw [g6 E]
  exact hP1
theorem arr_of {E : EV} {s : State} {cA : ClassId} {ty : FieldType} {j : Nat} (hK : va_K E.2.2.1 KL (e_tys E) s) (hj : (e_tys E)[j]? = some (E.2.2.2 ty, ty)) (hc : s.vm.findClass ("[" ++ ty.toString) = some cA) (hty : ∀ c0, va_RA s c0 ty → s.vm.findClass ("[" ++ ty.toString) = some c0) : cA = E.2.2.2 ty :=
  Option.some.inj (hc.symm.trans (hty _ (hK.2 j _ hj).2))
theorem Run.newa {k N : Nat} {v : Int32} (hd : DI M pc (.newarray .int) 2 nx) (hk : h.length = k) (hv : v = nI N) (hN : N ≤ 100000) (kk : Run X d kc ks M nx L (.ref (k + 1) :: S) (h ++ [.inl (.int, N, .inl (fun _ => 0))]) Q) : Run X d (kc + 1) (ks + N) M pc L (.int v :: S) h Q := by
  obtain ⟨hd, rfl⟩ := hd
  subst hk
  subst hv
  intro E p l e R s m args below meth c H locs cells slots Z ls C h1 h2 h3 h4 hH hS hl kz
  refine va_newa (atype := .int) (D := E.2.2.1) (cl := KL) (a0 := (N, .inl (fun _ => 0))) C.1 C.2.1 (C.ts _ ac_int) (ty := .int) rfl C.K hH.2 (e_D h) hS C.hA (fun cA => rfl) (nI_pos (by omega)) (nI_clamp (by omega)) (by show N * 4 ≤ _; omega) (by omega) (by omega) hd (fun q cA H1 hK1 hP1 hD1 hS1 => ?_)
  intro T2 hT2 Y
  have b1 : T2.heap.size ≤ s.heap.size + (cells + 1) := Y.same.2.2.1
  rw [hT2] at b1
  have b2 : q < H1.size := (hP1 _ _ (show (e_h E h ++ [(q, Sum.inl (cA, N, Sum.inl (fun _ => (0 : Int32))))])[(e_h E h).length]? = some (q, Sum.inl (cA, N, Sum.inl (fun _ => (0 : Int32)))) by rw [List.getElem?_append_right (Nat.le_refl _), Nat.sub_self]; rfl)).lt
  have b3 := hH.1
  obtain rfl := fresh_eq hD1 (by omega)
  have hcA : cA = E.2.2.2 .int := by
    have h5 := (hK1.2 (e_tys E).length (cA, .int) (by rw [List.getElem?_append_right (Nat.le_refl _), Nat.sub_self]; rfl)).2
    exact arr_of (ty := .int) (j := 0) C.K rfl h5 (fun c0 q => q)
  subst hcA
  refine kk E p l e R s m args below meth c H1 locs (cells + 1) (slots + N) Z ls C h1 h2 (by omega) (by omega) ⟨by simp; omega, ?_⟩ hS1 hl (fun r2 h2 H2 l2 c2 s2 g2 a1 a2 a3 a4 a5 a6 => kz r2 h2 H2 l2 c2 s2 g2 a1 a2 a3 a4 (by omega) (by omega)) T2 hT2 Y
  rw [e_h_push]
  exact hP1
theorem Run.newz {k N : Nat} {v : Int32} (hd : DI M pc (.newarray .boolean) 2 nx) (hk : h.length = k) (hv : v = nI N) (hN : N ≤ 100000) (kk : Run X d kc ks M nx L (.ref (k + 1) :: S) (h ++ [.inl (.boolean, N, .inl (fun _ => 0))]) Q) : Run X d (kc + 1) (ks + N) M pc L (.int v :: S) h Q := by
  obtain ⟨hd, rfl⟩ := hd
  subst hk
  subst hv
  intro E p l e R s m args below meth c H locs cells slots Z ls C h1 h2 h3 h4 hH hS hl kz
  refine va_newa (atype := .boolean) (D := E.2.2.1) (cl := KL) (a0 := (N, .inl (fun _ => 0))) C.1 C.2.1 (C.ts _ ac_bool) (ty := .boolean) rfl C.K hH.2 (e_D h) hS C.hA (fun cA => rfl) (nI_pos (by omega)) (nI_clamp (by omega)) (by show N * 1 ≤ _; omega) (by omega) (by omega) hd (fun q cA H1 hK1 hP1 hD1 hS1 => ?_)
  intro T2 hT2 Y
  have b1 : T2.heap.size ≤ s.heap.size + (cells + 1) := Y.same.2.2.1
  rw [hT2] at b1
  have b2 : q < H1.size := (hP1 _ _ (show (e_h E h ++ [(q, Sum.inl (cA, N, Sum.inl (fun _ => (0 : Int32))))])[(e_h E h).length]? = some (q, Sum.inl (cA, N, Sum.inl (fun _ => (0 : Int32)))) by rw [List.getElem?_append_right (Nat.le_refl _), Nat.sub_self]; rfl)).lt
  have b3 := hH.1
  obtain rfl := fresh_eq hD1 (by omega)
  have hcA : cA = E.2.2.2 .boolean := by
    have h5 := (hK1.2 (e_tys E).length (cA, .boolean) (by rw [List.getElem?_append_right (Nat.le_refl _), Nat.sub_self]; rfl)).2
    exact arr_of (ty := .boolean) (j := 1) C.K rfl h5 (fun c0 q => q)
  subst hcA
  refine kk E p l e R s m args below meth c H1 locs (cells + 1) (slots + N) Z ls C h1 h2 (by omega) (by omega) ⟨by simp; omega, ?_⟩ hS1 hl (fun r2 h2 H2 l2 c2 s2 g2 a1 a2 a3 a4 a5 a6 => kz r2 h2 H2 l2 c2 s2 g2 a1 a2 a3 a4 (by omega) (by omega)) T2 hT2 Y
  rw [e_h_push]
  exact hP1
theorem Run.newq {k N idx : Nat} {v : Int32} (hd : DI M pc (.anewarray idx) 3 nx) (hcl : Cond.classLink M.1.cls idx "PearlMother$State" ∈ TB) (hk : h.length = k) (hv : v = nI N) (hN : N ≤ 100000) (kk : Run X d kc ks M nx L (.ref (k + 1) :: S) (h ++ [.inl (.object "PearlMother$State", N, .inr (.inr (.inr (.inr (fun _ => none)))))]) Q) : Run X d (kc + 1) (ks + N) M pc L (.int v :: S) h Q := by
  obtain ⟨hd, rfl⟩ := hd
  subst hk
  subst hv
  intro E p l e R s m args below meth c H locs cells slots Z ls C h1 h2 h3 h4 hH hS hl kz
  refine va_newq (D := E.2.2.1) (cl := KL) C.1 C.2.1 C.own (C.ts _ hcl) C.2.2.2.2.2.2.2.2.2.2.1 C.K hH.2 (e_D h) hS C.hA (nI_pos (by omega)) (nI_clamp (by omega)) (by omega) (by omega) (by omega) hd (fun q cA H1 hK1 hP1 hD1 hS1 => ?_)
  intro T2 hT2 Y
  have b1 : T2.heap.size ≤ s.heap.size + (cells + 1) := Y.same.2.2.1
  rw [hT2] at b1
  have b2 : q < H1.size := (hP1 _ _ (show (e_h E h ++ [(q, Sum.inl (cA, N, Sum.inr (.inr (.inr (.inr (fun _ => none))))))])[(e_h E h).length]? = some (q, Sum.inl (cA, N, Sum.inr (.inr (.inr (.inr (fun _ => none)))))) by rw [List.getElem?_append_right (Nat.le_refl _), Nat.sub_self]; rfl)).lt
  have b3 := hH.1
  obtain rfl := fresh_eq hD1 (by omega)
  have hcA : cA = E.2.2.2 (.object "PearlMother$State") := by
    obtain ⟨k5, c5, -, -, -, h5⟩ := (hK1.2 (e_tys E).length (cA, .object "PearlMother$State") (by rw [List.getElem?_append_right (Nat.le_refl _), Nat.sub_self]; rfl)).2
    exact arr_of (ty := .object "PearlMother$State") (j := 2) C.K rfl h5 (fun c0 ⟨_, _, _, _, _, q⟩ => q)
  subst hcA
  refine kk E p l e R s m args below meth c H1 locs (cells + 1) (slots + N) Z ls C h1 h2 (by omega) (by omega) ⟨by simp; omega, ?_⟩ hS1 hl (fun r2 h2 H2 l2 c2 s2 g2 a1 a2 a3 a4 a5 a6 => kz r2 h2 H2 l2 c2 s2 g2 a1 a2 a3 a4 (by omega) (by omega)) T2 hT2 Y
  rw [e_h_push]
  exact hP1
/-- System.arraycopy over ints -/
theorem Run.copyi {idx k0 k1 n0 n1 sp dp cn : Nat} {f g : Nat → Int32} (hd : DI M pc (.invokestatic idx) 3 nx) (hlk : Cond.methodLink M.1.cls idx arraycopyName ∈ TB) (hk0 : h[k0]? = some (.inl (.int, n0, .inl f))) (hk1 : h[k1]? = some (.inl (.int, n1, .inl g))) (hsp : sp + cn ≤ n0) (hdp : dp + cn ≤ n1) (hsm : n0 < 100000 ∧ n1 < 100000) (hw : (S.map fun v => v.category).sum ≤ 8) (kk : Run X (d + 1) kc ks M nx L S (h.set k1 (.inl (.int, n1, .inl (va_cpy f g sp dp cn)))) Q) : Run X (d + 1) kc ks M pc L (.int (nI cn) :: .int (nI dp) :: .ref (k1 + 1) :: .int (nI sp) :: .ref (k0 + 1) :: S) h Q := by
  obtain ⟨hd, rfl⟩ := hd
  intro E p l e R s m args below meth c H locs cells slots Z ls C h1 h2 h3 h4 hH hS hl kz
  refine va_copyi (D := E.2.2.1) (cl := KL) C.1 C.2.1 (by rw [C.2.2.2.1]; exact hl.1.symm) C.own (C.ts _ hlk) (C.ts _ cp_1) (C.ts _ cp_2) (C.ts _ cp_3) C.K hH.2 (e_D h) hS k0 k1 0 0 (ty := .int) (e_h_at hk0) (e_h_at hk1) rfl rfl rfl (nI_pos (by omega)) (nI_pos (by omega)) (nI_pos (by omega)) (by rw [nI_clamp (by omega), nI_clamp (by omega)]; exact hsp) (by rw [nI_clamp (by omega), nI_clamp (by omega)]; exact hdp) (fun i _ => rfl) (by omega) ?_ hd (fun H1 locs1 hP1 _ hS1 => ?_)
  · rw [e_sum]
    have e5 : nativeFrameWords "java/lang/System" "arraycopy" 5 + 11 ≤ 52 := by decide +kernel
    omega
  · rw [nI_clamp (by omega), nI_clamp (by omega), nI_clamp (by omega)] at hP1
    exact kk E p l e R s m args below meth c H1 locs1 cells slots Z ls C h1 h2 h3 h4 (hpOK.set (c := .inl (.int, n1, .inl (va_cpy f g sp dp cn))) hH.1 hP1) hS1 hl kz
end RUNC
