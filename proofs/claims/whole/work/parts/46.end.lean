def R_law : String := "PearlMotherLaw"
def lw_P (b : Addr) (xs : List Int32) (args : Array Value) (s : State) : Prop := args = #[.ref b] ∧ s.IntsAt b xs ∧ xs.length ≤ 3072 ∧ (Jvm.Cond.and given_1 narrow_1).before args s = true
def lw_Q (_ : Array Value) (s : State) (o : Outcome) (t : State) : Prop := o = .returned (some (.int 1)) ∧ Framed s o t [] 600000 7302250
def lw_Z (below : List Frame) (a : Array Value) (s : State) : State → Prop := fun t => ∃ o, t.status = .running ∧ Ended t below o ∧ lw_Q a s o t
/-- the law's own end, with 1 on the stack, nothing written that was there before, its room as the claim has it -/
theorem lw_ret {p : Program} {l : Launch} {e : Env} {s : State} {m : MethodId} {below : List Frame} {meth : Method} {c : Code} {b : Nat} (hx : p.tables.exec = Jvm.exec) (hb : c.code = code) (hr : meth.sig.returnType = ret) (hlocks : meth.locks = false) {pc : Nat} {H : Heap} {ls : Array Slot} (hdg : decode code pc = .ok (.ireturn, 1)) : W p l e room_1 s m #[Value.ref b] below meth c H [] 600000 7302250 (lw_Z below #[Value.ref b] s) (F0 m pc ls [.int 1]) := by
  intro T hT X
  obtain ⟨fs, hret, hrun, hended, hW, hframe⟩ := X.leave (v := some (.int 1)) (hlocks := hlocks) (fun h => by rw [hr] at h; cases h)
  have hmeth' : T.vm.method? m = some meth := X.method'
  refine ⟨T.setFrames fs, ?_, .returned (some (.int 1)), hrun, hended, rfl, ⟨_, rfl⟩, hW, hframe⟩
  jvm_step X.here [X.here.top, hx, hb, hdg, hmeth', hr, ret, narrow_b1]
  (try refine ⟨rfl, ?_⟩); (try refine ⟨rfl, ?_⟩)
  first | (intro acts; rw [hret _ acts rfl rfl rfl]) | rw [hret _ _ rfl rfl rfl]
  exact Steps.refl _
/-- what holds at the law's entry: the machine, the code, the tables' words (any of lw_tbl by 'hts w (by decide +kernel)'), the script of L ints xs at the cell b, what the Statement gives of the start (any of its parts by flat_of_before) -/
def lw_At (p : Program) (s : State) (m : MethodId) (meth : Method) (c : Code) (b L : Nat) (xs : Nat → Int32) : Prop :=
  p.tables.exec = Jvm.exec ∧ c.code = code ∧ meth.sig.returnType = ret ∧ c.maxLocals = 4 ∧ s.vm.findClass R_law = some m.cls ∧ (∀ w ∈ lw_tbl, w.before #[Value.ref b] s = true) ∧ va_X b L xs s s.heap ∧ b < s.heap.size ∧ meth.locks = false ∧ (Jvm.Cond.and given_1 narrow_1).before #[Value.ref b] s = true ∧ meth.name = "law"
theorem inv_0 : InvH 0 (hX (Z0, 0) CO0 CO0 3 9 0 ST0 ST0 (Z0, 0) (Z0, Z0, Z0, 0, 0, 0) (Z0, Z0, Z0, 0, 0, 0, 0) (Z0, Z0) Z0 Z0 ST0 ST0 ++ hMx 0 0 0 0 0 0 0 0 0 0 0 0 0 0 Z0 Z0 Z0 Z0 Z0 Z0 Z0 Z0 Z0 Z0 Z0 Z0 Z0 Z0 Z0 Z0) := by
  refine inv_mk ⟨0, fun _ => 0, by omega, rfl, rfl, fun k hk => by omega⟩ ⟨(fun _ => 0, fun _ => 0, fun _ => 0, fun _ => 0, 0, 0), (fun _ => 0, fun _ => 0, 0, 0), ?_, ?_, ?_, ?_, ?_, ?_, ?_, ?_, ?_⟩ ⟨0, fun _ => 0, fun _ => 0, by omega, rfl, rfl, fun k hk => by omega⟩
  · exact ⟨Nat.zero_le _, Nat.zero_le _, fun j hj => absurd hj (Nat.not_lt_zero _), fun j hj => absurd hj (Nat.not_lt_zero _)⟩
  · exact ⟨⟨by show 0 < 8; omega, Nat.zero_le _, fun j hj => absurd hj (Nat.not_lt_zero _)⟩, Nat.le_refl _⟩
  · exact Or.inl ⟨rfl, rfl, ⟨fun j hj => absurd hj (Nat.not_lt_zero _), fun j hj => absurd hj (Nat.not_lt_zero _)⟩, rfl, rfl⟩
  · exact ⟨rfl, rfl, fun j hj => absurd hj (Nat.not_lt_zero _), fun j hj => absurd hj (Nat.not_lt_zero _)⟩
  · exact ⟨fun j hj => absurd hj (Nat.not_lt_zero _), rfl, rfl⟩
  · exact ⟨fun j hj => absurd hj (Nat.not_lt_zero _), rfl, rfl⟩
  · exact ⟨0, fun _ => (fun _ => 0, fun _ => 0, 0, 0), by omega, rfl, rfl, fun k hk => absurd hk (Nat.not_lt_zero _), rfl⟩
  · exact ⟨false, rfl, rfl, fun z => by cases z⟩
  · exact ⟨false, rfl, rfl, fun z => by cases z⟩
theorem l_start {X : Nat × (Nat → Int32)} (hL : X.1 ≤ 3072) : Run X 41 60 933 M_La_law 0 [some (.ref 0), none, none, none] [] [] QL := by
  refine Run.newo (kc := 59) (ks := 920) d_La_law_0 nl_La_7 (k := 0) rfl ?_
  refine Run.dup d_La_law_3 rfl ?_
  refine Run.callI (As := []) (mc := 42) (ms := 441) (kc := 17) (ks := 479) d_La_law_4 lk_La_9 cm_PM_init iv_PM_init rfl rfl rfl (Nat.le_of_ble_eq_true rfl) (Nat.le_of_ble_eq_true rfl) (i_PM_init (d := 38)) (fun r1 h1 q1 => by rw [q1.2]; rfl) (fun r1 h1 q1 => ?_)
  obtain ⟨rfl, rfl⟩ := q1
  refine Run.astore_n d_La_law_7 rfl rfl ?_
  show Run _ _ _ _ _ _ [_, _, _, _] _ _ _
  refine Run.newo (kc := 16) (ks := 448) d_La_law_8 nl_La_10 (k := 43) rfl ?_
  refine Run.dup d_La_law_11 rfl ?_
  refine Run.callI (As := []) (mc := 16) (ms := 448) (kc := 0) (ks := 0) d_La_law_12 lk_La_12 cm_Rf_init iv_Rf_init rfl rfl rfl (Nat.le_of_ble_eq_true rfl) (Nat.le_of_ble_eq_true rfl) (i_Rf_all (d := 39) rfl) (fun r1 h1 q1 => by rw [q1.2]; rfl) (fun r1 h1 q1 => ?_)
  obtain ⟨rfl, rfl⟩ := q1
  refine Run.astore_n d_La_law_15 rfl rfl ?_
  show Run _ _ _ _ _ _ [_, _, _, _] _ _ _
  refine Run.iconst (v := nI 0) d_La_law_16 ic_0 ?_
  refine Run.istore_n d_La_law_17 rfl rfl ?_
  show Run _ _ _ _ _ _ [_, _, _, _] _ _ _
  exact l_loop hL 0 (Nat.zero_le _) _ inv_0
theorem kn_of {own : String} {idx ci : Nat} {fs : List Value} {args : Array Value} {s : State} (nl : NL own idx ci fs) (hts : ∀ w ∈ TB, w.before args s = true) : ∃ (cC : ClassId) (iS : Nat → Nat), ∀ q : vw_C, KL[ci]? = some q → u_Kn s q.1 q.2.1 q.2.2 cC iS := by
  obtain ⟨C, T, N, ty, hc, -, hi, -⟩ := nl
  obtain ⟨cC, iS, h⟩ := u_known (n := N) hts (kl_in hc).1 (hts _ hi)
  exact ⟨cC, iS, fun q hq => by rw [hc] at hq; cases hq; exact h⟩
theorem whole_start {p : Program} {e : Env} {s : State} {m : MethodId} {below : List Frame} {meth : Method} {c : Code} (l : Launch) (hflags : l.flags = flags0) {b L : Nat} {xs : Nat → Int32} (hL : L ≤ 3072) (C0 : lw_At p s m meth c b L xs) : W p l e room_1 s m #[Value.ref b] below meth c s.heap [] 0 0 (lw_Z below #[Value.ref b] s) (entryFrame m ([Value.ref b] : List Value).toArray 4) := by
  obtain ⟨hx, hb, hr, hml, hown, hts, hX, hbl, hlocks, hgv, hnm⟩ := id C0
  have hTB : ∀ w ∈ TB, w.before #[Value.ref b] s = true := fun w hw => hts w (List.mem_filter.mp hw).1
  obtain ⟨c0, i0, k0⟩ := kn_of nl_PM_40 hTB
  obtain ⟨c1, i1, k1⟩ := kn_of nl_PM_16 hTB
  obtain ⟨c2, i2, k2⟩ := kn_of nl_PM_54 hTB
  obtain ⟨c3, i3, k3⟩ := kn_of nl_PM_61 hTB
  obtain ⟨c4, i4, k4⟩ := kn_of nl_PM_26 hTB
  obtain ⟨c5, i5, k5⟩ := kn_of nl_PM_9 hTB
  obtain ⟨c6, i6, k6⟩ := kn_of nl_PM_47 hTB
  obtain ⟨c7, i7, k7⟩ := kn_of nl_La_7 hTB
  obtain ⟨c8, i8, k8⟩ := kn_of nl_La_10 hTB
  obtain ⟨cI, kI, mI, hfI, hkI, hdI⟩ := Cond.arrayClass_spec (hTB _ ac_int)
  obtain ⟨cZ, kZ, mZ, hfZ, hkZ, hdZ⟩ := Cond.arrayClass_spec (hTB _ ac_bool)
  have hao : va_AO "PearlMother$State" s := va_AO.of (hts (.arrayOver (.object "PearlMother$State")) (List.mem_of_getElem? (i := 146) (by decide +kernel)))
  obtain ⟨mS, cS, kS, hcS, -, hkS, hdS, hfS⟩ := Cond.arrayOver_spec hao
  have hcx : ∃ E : EV, E.1 = b ∧ E.2.1 = s.heap.size ∧ va_K E.2.2.1 KL (e_tys E) s := by
    refine ⟨(b, s.heap.size, (fun k => match k with | 0 => c0 | 1 => c1 | 2 => c2 | 3 => c3 | 4 => c4 | 5 => c5 | 6 => c6 | 7 => c7 | _ => c8, fun k => match k with | 0 => i0 | 1 => i1 | 2 => i2 | 3 => i3 | 4 => i4 | 5 => i5 | 6 => i6 | 7 => i7 | _ => i8), fun ty => match ty with | .int => cI | .boolean => cZ | _ => cS), rfl, rfl, fun k q hq => ?_, fun k q hq => ?_⟩
    · match k, hq with
      | 0, hq => exact k0 q hq
      | 1, hq => exact k1 q hq
      | 2, hq => exact k2 q hq
      | 3, hq => exact k3 q hq
      | 4, hq => exact k4 q hq
      | 5, hq => exact k5 q hq
      | 6, hq => exact k6 q hq
      | 7, hq => exact k7 q hq
      | 8, hq => exact k8 q hq
      | k + 9, hq => simp [KL] at hq
    · match k, hq with
      | 0, hq => cases hq; exact ⟨fun n z => ⟨fun k h => (by cases h), kI, hkI, mI, hdI⟩, hfI⟩
      | 1, hq => cases hq; exact ⟨fun n z => ⟨fun k h => (by cases h), kZ, hkZ, mZ, hdZ⟩, hfZ⟩
      | 2, hq => cases hq; exact ⟨fun n z => ⟨fun k h => (by cases h), kS, hkS, mS, hdS⟩, kS, mS, hkS, hdS, hcS, hfS⟩
      | k + 3, hq => simp [e_tys] at hq
  obtain ⟨E, hE1, hE2, hK⟩ := hcx
  have hNW : ∀ w ∈ NW, va_Nw w s := fun w hw => by
    have hm : w ∈ lw_tbl := by
      rw [nw_in] at hw
      obtain ⟨i, -, hi⟩ := List.mem_filterMap.mp hw
      exact List.mem_of_getElem? hi
    exact va_Nw.of (nw_tab hw) (hts w hm)
  have C : Cx (L, xs) E M_La_law p s m #[Value.ref b] meth c := ⟨hx, hb, hr, hml, hown, hTB, hlocks, hnm, hK, hNW, hao, by rw [hE1]; exact hX, by rw [hE1, hE2]; exact hbl, by rw [hE2]; exact Nat.le_refl _⟩
  have hl := lv_entry ([.ref b] : List Value) (n := 4) (Nat.le_of_ble_eq_true rfl)
  rw [lg_entry_eq]
  have hl2 := lvOK_entry (E := E) (n := 4) (As := [.ref 0]) (Nat.le_of_ble_eq_true rfl) (by rw [show ([Value.ref 0] : List Value).map (e_v E) = [Value.ref b] by rw [← hE1]; rfl]; exact hl)
  refine l_start (X := (L, xs)) hL E p l e room_1 s m #[Value.ref b] below meth c s.heap [] 0 0 _ _ C (Nat.le_of_ble_eq_true rfl) (Nat.le_of_ble_eq_true rfl) (Nat.le_of_ble_eq_true rfl) (Nat.le_of_ble_eq_true rfl) ⟨by rw [hE2]; rfl, fun k q h => by simp [e_h] at h⟩ va_S.rf hl2 (fun r h' H' locs' cells' slots' g hq hr2 hH hS hc hs => ?_)
  have hq : r = some (.int 1) := hq
  refine va_forget (fun q hq2 => by have := hS.2.2 q hq2; rw [← hE2]; exact this) ?_
  refine W.widen (k := 600000) (n := 7302250) (by omega) (by omega) ?_
  obtain ⟨pc, ls2, hr3⟩ := hr2
  rcases hr3 with ⟨rfl, -⟩ | ⟨x1, ty, rfl, rfl, hd, -, -⟩ | ⟨x1, rfl, -⟩
  · cases hq
  · cases hq
    exact lw_ret hx hb hr hlocks hd
  · cases hq
set_option maxHeartbeats 4000000 in
theorem lw_walk (l : Launch) (hflags : l.flags = flags0) (b : Addr) (xs : List Int32) : MetFree l x (headSpec (Jvm.Cond.code x code maxLocals ret :: tables_1) room_1) (lw_P b xs) (fun _ _ _ _ _ => True) lw_Q := by
  refine MetFree.of_bodyS (code := code) (maxLocals := maxLocals) (ret := ret) (by decide) ?_ ?_
  · intro args s m h hn
    obtain ⟨meth, c, h1, h2, h3, h4, h5, h6, -, -⟩ := Cond.code_spec hn (atoms_spec (ws := Jvm.Cond.code x code maxLocals ret :: tables_1) h _ List.mem_cons_self)
    exact ⟨meth, c, h1, h2, h3, h4, h5, h6⟩
  · intro p e s m args below meth c s₁ B hml0 hP _
    obtain ⟨rfl, hx, hbd, hgv⟩ := hP
    obtain ⟨scr, harrAt, hlist, hof, hsmall⟩ := hx
    obtain ⟨hcb, hkn, -, -⟩ := State.arrayAt?_spec harrAt
    have hown : s.vm.findClass R_law = some m.cls := findClass_of_methodNamed B.named
    have hts0 : ∀ c ∈ (Jvm.Cond.code x code maxLocals ret :: tables_1), c.before #[Value.ref b] s = true := atoms_spec (ws := Jvm.Cond.code x code maxLocals ret :: tables_1) B.pre
    have hts : ∀ w ∈ lw_tbl, w.before #[Value.ref b] s = true := k2_hts_sels lw_privs (fun w hw => hts0 w (List.mem_cons_of_mem _ hw)) lw_privs_ok
    have hml : c.maxLocals = 4 := B.maxLocals_eq (hts0 _ List.mem_cons_self)
    have X₀ : Stand p l e room_1 s m #[Value.ref b] below meth c s₁ [] 0 0 := Stand.of_body B
    have hh0 : s₁.heap = s.heap := by rw [B.state]; rfl
    have hsz : scr.slots.size = xs.length := by rw [← Array.length_toList, hlist, List.length_map]
    have hval : ∀ j : Nat, j < xs.length → scr.slots[j]? = some (.int (xs.getD j 0)) := fun j hj => by
      rw [← Array.getElem?_toList, hlist]
      simp [hj]
    have hbl : b < s.heap.size := (Array.getElem?_eq_some_iff.mp hcb).1
    have hX : va_X b xs.length (fun j => xs.getD j 0) s s.heap := ⟨scr, hcb, hof, hkn, hsz, hval⟩
    have K : W p l e room_1 s m #[Value.ref b] below meth c s₁.heap [] 0 0 (lw_Z below #[Value.ref b] s) (entryFrame m ([Value.ref b] : List Value).toArray 4) := by
      rw [hh0]
      exact whole_start l hflags hbd ⟨B.exec, B.bytes, B.returns, hml, hown, hts, hX, hbl, B.notSynchronized, hgv, (name_of_methodNamed B.named B.method).1⟩
    obtain ⟨t, a1, o, b1, b2, b3⟩ := K s₁ rfl X₀
    exact ⟨t, o, a1, b1, b2, b3⟩
theorem lw_pre_spec {args : Array Value} {s : State} (h : (Jvm.Cond.and given_1 narrow_1).before args s = true) (hr : rest_1_c.before args s = true) : ∃ (b : Addr) (xs : List Int32), lw_P b xs args s := by
  have hs := flat_of_before _ h
  have hq := flat_of_before _ hr
  have hc : (Cond.count 1).before args s = true := hs _ (by decide +kernel)
  have harr : (Cond.arrayOf (.arg 0) .int).before args s = true := hs _ (by decide +kernel)
  have hle : (Cond.le (.length (.arg 0)) (.int 3072)).before args s = true := hs _ (by decide +kernel)
  have hlen : (Cond.isInt (.length (.arg 0))).before args s = true := hq _ (by decide +kernel)
  have hall : (Cond.all (.arg 0) (.isInt (.elem (.arg 0) (.index 0)))).before args s = true := hq _ (by decide +kernel)
  obtain ⟨b, xs, hb, hx⟩ := State.ints_of_pre rfl harr hlen hall
  have hsm : xs.length < 2 ^ 31 := hx.choose_spec.2.2.2
  have hev : (Term.length (.arg 0)).eval args s none [] s = some (.int xs.length.toInt32) := hx.length_eval hb
  have hv := Cond.le_ints hev (show (Term.int 3072).eval args s none [] s = some (.int 3072) from rfl)
  have hd : xs.length.toInt32 ≤ 3072 := by
    simpa [Cond.before, Cond.holds, hv] using hle
  have hN : xs.length ≤ 3072 := (Int32.ofNat_le_ofNat hsm (by decide)).mp (show Int32.ofNat xs.length ≤ Int32.ofNat 3072 from hd)
  exact ⟨b, xs, Cond.one_arg hc (show args[0]? = some (.ref b) from hb), hx, hN, h⟩
theorem lw_comes (l : Launch) (hflags : l.flags = flags0) : Comes l x (Jvm.Cond.code x code maxLocals ret :: tables_1) room_1 (fun tb e args s => Calls_1 tb e args s ∧ rest_1 tb e args s ∧ Pre_1 tb e args s)
    (fun _ _ args s o t => lw_Q args s o t) := by
  intro p e ha hc hk s m args below hf hfit hheap happ hpre
  obtain ⟨b, xs, hP⟩ := lw_pre_spec hpre.2.2 hpre.2.1
  obtain ⟨k, o, h1, h2, h3, hQ⟩ := lw_walk l hflags b xs p e ha hc hk s m args below hf ((Spec.applies_iff_loose hf).mp happ).1 hP trivial
  exact ⟨k, o, h1, h2, h3, hQ⟩
theorem lw_frame {s t : State} {o : Outcome} {args : Array Value} (h : Framed s o t [] 600000 7302250) :
    Framed s o t (fieldLocs frame_1_writes args s ++ arrayLocs frame_1_arrays args s ++ staticLocs frame_1_statics s) 600000 7302250 := h
theorem lw_limb (L : Cond) (hL : ∀ (args : Array Value) (s t : State), L.after args s (.returned (some (.int 1))) t = true) :
    ArmFor flags0 classFile x code maxLocals ret World_1 tables_1 room_1 Calls_1 rest_1 Pre_1
      (fun tb e a s o t => postC L tb e a s o t ∧ Framed s o t (fieldLocs frame_1_writes a s ++ arrayLocs frame_1_arrays a s ++ staticLocs frame_1_statics s) 600000 7302250) := by
  intro l hflags _ _ p e ha hc hk s m args below hf hfit hheap happ hpre
  obtain ⟨k, o, h1, h2, h3, rfl, hF⟩ := lw_comes l hflags p e ha hc hk s m args below hf hfit hheap happ hpre
  exact ⟨k, _, h1, h2, h3, hL args s _, lw_frame hF⟩
theorem i_vc : Claimed_1_1 ∧ Claimed_1_2 := ⟨lw_limb limb_1_1 (fun args s t => by simp [limb_1_1, Cond.after, Cond.holds, Cond.value]), lw_limb limb_1_2 (fun args s t => Cond.after_iff.mpr (by
  first | (rw [show limb_1_2 = Cond.eq .result (.int 1) from rfl, Cond.eq_ints (x := 1) (y := 1) rfl rfl]; simp; done) | (simp [limb_1_2, Cond.value, Term.eval]; done)))⟩
