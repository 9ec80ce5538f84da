/-! ===== a coast made anew ===== -/
def cCA (q : PS) : CA := match q with
  | (_, _, hk, pt, an, kd, _, nh, np) => (hk, pt, an, kd, nh, np)
def cPG (q : PS) : PG := match q with
  | (_, li, _, _, _, _, hd, _, _) => (fun _ => 0, hd, li, 0)
theorem cCA_ok {q : PS} (h : psOK q) : coOK (cCA q) := by
  obtain ⟨du, li, hk, pt, an, kd, hd, nh, np⟩ := q
  obtain ⟨a1, a2, a3, a4, a5, a6, a7, a8, a9, a10, a11⟩ := h
  exact ⟨a2, a3, a7, fun i hi => ⟨(a8 i hi).1, (a8 i hi).2.1, (a8 i hi).2.2.1⟩⟩
theorem cPG_ok {q : PS} (h : psOK q) (h2 : q.1 = 2) : pgOK (cCA q) (cPG q) := by
  obtain ⟨du, li, hk, pt, an, kd, hd, nh, np⟩ := q
  obtain ⟨a1, a2, a3, a4, a5, a6, a7, a8, a9, a10, a11⟩ := h
  have h2 : du = 2 := h2
  exact ⟨a4 (by omega), Nat.zero_le _, fun i hi => ⟨by show 0 < 8; omega, (a8 i hi).2.2.2⟩⟩
theorem PsR.co {q : PS} {cs : CoS} (h : PsR q cs) : CoR (cCA q) cs := by
  obtain ⟨du, li, hk, pt, an, kd, hd, nh, np⟩ := q
  obtain ⟨r1, r2, r3, r4, r5, r6, r7, r8⟩ := h
  exact ⟨⟨r4, fun i hi => ⟨(r5 i hi).1, (r5 i hi).2.1, (r5 i hi).2.2.1⟩⟩, r2, r3⟩
theorem PsR.st {q : PS} {cs : CoS} {ft fw : FI} {ke : Int32} (hq : psOK q) (h2 : q.1 = 2) (h : PsR q cs) (e : ∀ j, j < 6 → ft j = nI 0 ∧ fw j = cs.2.2.2.2.1 j) : StR (cCA q) (cPG q) (ft, fw, cs.2.2.2.2.2.1, nI 0, ke) := by
  obtain ⟨du, li, hk, pt, an, kd, hd, nh, np⟩ := q
  obtain ⟨a1, a2, a3, a4, a5, a6, a7, a8, a9, a10, a11⟩ := hq
  obtain ⟨r1, r2, r3, r4, r5, r6, r7, r8⟩ := h
  have h2 : du = 2 := h2
  refine ⟨fun i hi => ?_, r1 (by omega), rfl⟩
  have hi : i < np := hi
  have e1 := e i (by omega)
  exact ⟨e1.1, by show fw i = nI (hd i); rw [e1.2]; exact (r5 i hi).2.2.2⟩
def ansC (q : PS) : Nat := 10 * nhC (cCA q) + npC (cCA q)
section COAST
variable {X : Nat × (Nat → Int32)} {d : Nat} {t : AH} {tx : TxS} {ca cb : CoS} {kt kd : Nat} {sd : Int64} {nw tr s0 s1 : StS} {ac : AcS} {tu : TuS} {gi : GiS} {mo : MoS} {dn ch : FI} {n : Nat} {f : FI} {bt : Nat → Nat}
theorem q_St_beginA {ft fw : FI} {li ho ke : Int32} : Call X d 0 0 M_St_begin [.ref 16, .ref 4] (hX tx ca cb kt kd sd (ft, fw, li, ho, ke) tr ac tu gi mo dn ch s0 s1 ++ t) (fun r h2 => r = none ∧ ∃ ft2 fw2 : FI, (∀ j, j < 6 → ft2 j = nI 0 ∧ fw2 j = ca.2.2.2.2.1 j) ∧ h2 = hX tx ca cb kt kd sd (ft2, fw2, ca.2.2.2.2.2.1, nI 0, ke) tr ac tu gi mo dn ch s0 s1 ++ t) := by
  show Run X d 0 0 M_St_begin 0 [some (.ref 16), some (.ref 4), none] [] _ _
  refine Run.iconst (v := nI 0) d_St_begin_0 ic_0 ?_
  refine Run.istore_n d_St_begin_1 rfl rfl ?_
  show Run _ _ _ _ _ _ [_, _, _] _ _ _
  refine upto 6 (fun i => ∀ ft2 fw2 : FI, (∀ j, j < i → ft2 j = nI 0 ∧ fw2 j = ca.2.2.2.2.1 j) → Run X d 0 0 M_St_begin 2 [some (.ref 16), some (.ref 4), some (.int (nI i))] [] (hX tx ca cb kt kd sd (ft2, fw2, li, ho, ke) tr ac tu gi mo dn ch s0 s1 ++ t) (fun r h2 => r = none ∧ ∃ ft2 fw2 : FI, (∀ j, j < 6 → ft2 j = nI 0 ∧ fw2 j = ca.2.2.2.2.1 j) ∧ h2 = hX tx ca cb kt kd sd (ft2, fw2, ca.2.2.2.2.2.1, nI 0, ke) tr ac tu gi mo dn ch s0 s1 ++ t)) ?_ 0 (Nat.zero_le _) ft fw (fun j hj => by omega)
  intro i hi ih ft2 fw2 he
  refine Run.iload_n d_St_begin_2 rfl ?_
  refine Run.bipush (v := nI 6) d_St_begin_3 bp_6 ?_
  first | refine Run.icmp_ge_n d_St_begin_5 (by omega) (by omega) (fun c5 => ?_) (fun c5 => ?_) | refine Run.icmp_ge d_St_begin_5 (fun c5 => ?_) (fun c5 => ?_)
  · refine Run.aload_n d_St_begin_33 rfl ?_
    refine Run.aload_n d_St_begin_34 rfl ?_
    refine Run.getf d_St_begin_35 fl_St_21 (by first | rfl | assumption) (by rfl) ?_
    refine Run.putf d_St_begin_38 fl_St_25 (fun _ => rfl) (fun _ => rfl) (by first | rfl | assumption) (by exact Nat.le_of_ble_eq_true rfl) ?_
    refine Run.aload_n d_St_begin_41 rfl ?_
    refine Run.iconst (v := nI 0) d_St_begin_42 ic_0 ?_
    refine Run.putf d_St_begin_43 fl_St_26 (fun _ => rfl) (fun _ => rfl) (by first | rfl | assumption) (by exact Nat.le_of_ble_eq_true rfl) ?_
    refine Run.vret d_St_begin_46 rfl ?_
    exact ⟨rfl, ft2, fw2, fun j hj => he j (by omega), rfl⟩
  · refine Run.aload_n d_St_begin_8 rfl ?_
    refine Run.getf d_St_begin_9 fl_St_9 (by first | rfl | assumption) (by rfl) ?_
    refine Run.iload_n d_St_begin_12 rfl ?_
    refine Run.iconst (v := nI 0) d_St_begin_13 ic_0 ?_
    refine Run.iast_n d_St_begin_14 (by first | rfl | assumption) (by omega) (by omega) ?_
    refine Run.aload_n d_St_begin_15 rfl ?_
    refine Run.getf d_St_begin_16 fl_St_15 (by first | rfl | assumption) (by rfl) ?_
    refine Run.iload_n d_St_begin_19 rfl ?_
    refine Run.aload_n d_St_begin_20 rfl ?_
    refine Run.getf d_St_begin_21 fl_St_18 (by first | rfl | assumption) (by rfl) ?_
    refine Run.iload_n d_St_begin_24 rfl ?_
    refine Run.iald_n d_St_begin_25 (by first | rfl | assumption) (by omega) (by omega) ?_
    refine Run.iast_n d_St_begin_26 (by first | rfl | assumption) (by omega) (by omega) ?_
    first | refine Run.iinc_n d_St_begin_27 ic_1 rfl rfl ?_ | refine Run.iinc d_St_begin_27 rfl rfl rfl ?_
    show Run _ _ _ _ _ _ [_, _, _] _ _ _
    refine Run.goto d_St_begin_30 ?_
    refine ih c5 (upd ft2 i (nI 0)) (upd fw2 i (ca.2.2.2.2.1 i)) (fun j hj => ?_)
    by_cases hji : j = i
    · subst hji; rw [pk_us, pk_us]; exact ⟨rfl, rfl⟩
    · rw [pk_un hji, pk_un hji]; exact he j (by omega)
theorem q_PM_faultA (hn : n ≤ 48) (hf : ∀ k, k < n → f k = nI (bt k) ∧ bt k < 256) : Call X (d + 4) 0 0 M_PM_fault [.ref 1] (hX (f, nI n) ca cb 9 3 sd nw tr ac tu gi mo dn ch s0 s1 ++ t) (fun r h2 => r = some (.int (fltR bt n)) ∧ ∃ cs2, h2 = hX (f, nI n) cs2 cb 9 3 sd nw tr ac tu gi mo dn ch s0 s1 ++ t) := by
  show Run X (d + 4) 0 0 M_PM_fault 0 [some (.ref 1)] [] _ _
  refine Run.aload_n d_PM_fault_0 rfl ?_
  refine Run.getf d_PM_fault_1 fl_PM_12 (by first | rfl | assumption) (by rfl) ?_
  refine Run.aload_n d_PM_fault_4 rfl ?_
  refine Run.getf d_PM_fault_5 fl_PM_23 (by first | rfl | assumption) (by rfl) ?_
  refine Run.V1 d_PM_fault_8 lk_PM_83 cm_Te_readInto iv_Te_readInto rfl (by first | rfl | assumption) (Nat.le_of_ble_eq_true rfl) (Nat.le_of_ble_eq_true rfl) (q_Te_readA hn hf rfl) (fun r8 h8 q8 => ?_)
  obtain ⟨rfl, cs2, rfl, -⟩ := q8
  refine Run.iret d_PM_fault_11 rfl rfl ?_
  exact ⟨rfl, cs2, rfl⟩
theorem k58A {q : PS} {cs2 : CoS} {ft fw ft2 fw2 : FI} {li ho ke : Int32} {v1 : Nat} (hq : psI bt n = some q) (h2 : q.1 = 2) (hr : PsR q cs2) (e1 : cs2.2.2.2.2.2.2.1 = nI (nhC (cCA q))) (e2 : cs2.2.2.2.2.2.2.2 = nI (npC (cCA q))) (hb : ∀ j, j < 6 → ft2 j = nI 0 ∧ fw2 j = cs2.2.2.2.2.1 j) : Run X (d + 4) 0 0 M_PM_coast 58 [some (.ref 1), some (.ref v1), some (.int (nI 0))] [] (hX (f, nI n) cs2 cb 3 9 sd (ft2, fw2, cs2.2.2.2.2.2.1, nI 0, ke) tr (ac.1, nI 0) tu gi mo dn ch s0 s1 ++ t) (fun r h2 => (¬ fltR bt n = -9 ∧ r = some (.int (-3)) ∧ ∃ cs2, h2 = hX (f, nI n) cs2 cb 9 3 sd (ft, fw, li, ho, ke) tr ac tu gi mo dn ch s0 s1 ++ t) ∨ (∃ q cs2 ft2 fw2, psI bt n = some q ∧ q.1 = 2 ∧ r = some (.int (nI (ansC q))) ∧ PsR q cs2 ∧ (∀ j, j < 6 → ft2 j = nI 0 ∧ fw2 j = cs2.2.2.2.2.1 j) ∧ h2 = hX (f, nI n) cs2 cb 3 9 sd (ft2, fw2, cs2.2.2.2.2.2.1, nI 0, ke) tr (ac.1, nI 0) tu gi mo dn ch (s0.1, s0.2.1, s0.2.2.1, s0.2.2.2.1, nI 0) (s1.1, s1.2.1, s1.2.2.1, s1.2.2.2.1, nI 0) ++ t)) := by
  have hz : Run X (d + 4) 0 0 M_PM_coast 58 [some (.ref 1), some (.ref v1), some (.int (nI 2))] [] (hX (f, nI n) cs2 cb 3 9 sd (ft2, fw2, cs2.2.2.2.2.2.1, nI 0, ke) tr (ac.1, nI 0) tu gi mo dn ch (s0.1, s0.2.1, s0.2.2.1, s0.2.2.2.1, nI 0) (s1.1, s1.2.1, s1.2.2.1, s1.2.2.2.1, nI 0) ++ t) (fun r h2 => (¬ fltR bt n = -9 ∧ r = some (.int (-3)) ∧ ∃ cs2, h2 = hX (f, nI n) cs2 cb 9 3 sd (ft, fw, li, ho, ke) tr ac tu gi mo dn ch s0 s1 ++ t) ∨ (∃ q cs2 ft2 fw2, psI bt n = some q ∧ q.1 = 2 ∧ r = some (.int (nI (ansC q))) ∧ PsR q cs2 ∧ (∀ j, j < 6 → ft2 j = nI 0 ∧ fw2 j = cs2.2.2.2.2.1 j) ∧ h2 = hX (f, nI n) cs2 cb 3 9 sd (ft2, fw2, cs2.2.2.2.2.2.1, nI 0, ke) tr (ac.1, nI 0) tu gi mo dn ch (s0.1, s0.2.1, s0.2.2.1, s0.2.2.2.1, nI 0) (s1.1, s1.2.1, s1.2.2.1, s1.2.2.2.1, nI 0) ++ t)) := by
    refine Run.iload_n d_PM_coast_58 rfl ?_
    refine Run.iconst (v := nI 2) d_PM_coast_59 ic_2 ?_
    first | refine Run.icmp_ge_n d_PM_coast_60 (by omega) (by omega) (fun c60 => ?_) (fun c60 => ?_) | refine Run.icmp_ge d_PM_coast_60 (fun c60 => ?_) (fun c60 => ?_)
    · refine Run.bipush (v := nI 10) d_PM_coast_79 bp_10 ?_
      refine Run.aload_n d_PM_coast_81 rfl ?_
      refine Run.getf d_PM_coast_82 fl_PM_19 (by first | rfl | assumption) (by rfl) ?_
      refine Run.getf d_PM_coast_85 fl_PM_98 (by first | rfl | assumption) (by rfl) ?_
      rw [e1]
      first | refine Run.imul_n d_PM_coast_88 ?_ | refine Run.imul d_PM_coast_88 ?_
      refine Run.aload_n d_PM_coast_89 rfl ?_
      refine Run.getf d_PM_coast_90 fl_PM_19 (by first | rfl | assumption) (by rfl) ?_
      refine Run.getf d_PM_coast_93 fl_PM_101 (by first | rfl | assumption) (by rfl) ?_
      rw [e2]
      first | refine Run.iadd_n d_PM_coast_96 ?_ | refine Run.iadd d_PM_coast_96 ?_
      refine Run.iret d_PM_coast_97 rfl rfl ?_
      exact Or.inr ⟨q, cs2, ft2, fw2, hq, h2, rfl, hr, hb, rfl⟩
    · omega
  have hy : Run X (d + 4) 0 0 M_PM_coast 58 [some (.ref 1), some (.ref v1), some (.int (nI 1))] [] (hX (f, nI n) cs2 cb 3 9 sd (ft2, fw2, cs2.2.2.2.2.2.1, nI 0, ke) tr (ac.1, nI 0) tu gi mo dn ch (s0.1, s0.2.1, s0.2.2.1, s0.2.2.2.1, nI 0) s1 ++ t) (fun r h2 => (¬ fltR bt n = -9 ∧ r = some (.int (-3)) ∧ ∃ cs2, h2 = hX (f, nI n) cs2 cb 9 3 sd (ft, fw, li, ho, ke) tr ac tu gi mo dn ch s0 s1 ++ t) ∨ (∃ q cs2 ft2 fw2, psI bt n = some q ∧ q.1 = 2 ∧ r = some (.int (nI (ansC q))) ∧ PsR q cs2 ∧ (∀ j, j < 6 → ft2 j = nI 0 ∧ fw2 j = cs2.2.2.2.2.1 j) ∧ h2 = hX (f, nI n) cs2 cb 3 9 sd (ft2, fw2, cs2.2.2.2.2.2.1, nI 0, ke) tr (ac.1, nI 0) tu gi mo dn ch (s0.1, s0.2.1, s0.2.2.1, s0.2.2.2.1, nI 0) (s1.1, s1.2.1, s1.2.2.1, s1.2.2.2.1, nI 0) ++ t)) := by
    refine Run.iload_n d_PM_coast_58 rfl ?_
    refine Run.iconst (v := nI 2) d_PM_coast_59 ic_2 ?_
    first | refine Run.icmp_ge_n d_PM_coast_60 (by omega) (by omega) (fun c60 => ?_) (fun c60 => ?_) | refine Run.icmp_ge d_PM_coast_60 (fun c60 => ?_) (fun c60 => ?_)
    · omega
    · refine Run.aload_n d_PM_coast_63 rfl ?_
      refine Run.getf d_PM_coast_64 fl_PM_36 (by first | rfl | assumption) (by rfl) ?_
      refine Run.iload_n d_PM_coast_67 rfl ?_
      refine Run.aald_n d_PM_coast_68 (by first | rfl | assumption) (by omega) (by omega) (by rfl) ?_
      refine Run.iconst (v := nI 0) d_PM_coast_69 ic_0 ?_
      refine Run.putf d_PM_coast_70 fl_PM_94 (fun _ => rfl) (fun _ => rfl) (by first | rfl | assumption) (by exact Nat.le_of_ble_eq_true rfl) ?_
      refine run_hp (show _ = hX (f, nI n) cs2 cb 3 9 sd (ft2, fw2, cs2.2.2.2.2.2.1, nI 0, ke) tr (ac.1, nI 0) tu gi mo dn ch (s0.1, s0.2.1, s0.2.2.1, s0.2.2.2.1, nI 0) (s1.1, s1.2.1, s1.2.2.1, s1.2.2.2.1, nI 0) ++ t from rfl) ?_
      first | refine Run.iinc_n d_PM_coast_73 ic_1 rfl rfl ?_ | refine Run.iinc d_PM_coast_73 rfl rfl rfl ?_
      show Run _ _ _ _ _ _ [_, _, _] _ _ _
      refine Run.goto d_PM_coast_76 ?_
      exact hz
  refine Run.iload_n d_PM_coast_58 rfl ?_
  refine Run.iconst (v := nI 2) d_PM_coast_59 ic_2 ?_
  first | refine Run.icmp_ge_n d_PM_coast_60 (by omega) (by omega) (fun c60 => ?_) (fun c60 => ?_) | refine Run.icmp_ge d_PM_coast_60 (fun c60 => ?_) (fun c60 => ?_)
  · omega
  · refine Run.aload_n d_PM_coast_63 rfl ?_
    refine Run.getf d_PM_coast_64 fl_PM_36 (by first | rfl | assumption) (by rfl) ?_
    refine Run.iload_n d_PM_coast_67 rfl ?_
    refine Run.aald_n d_PM_coast_68 (by first | rfl | assumption) (by omega) (by omega) (by rfl) ?_
    refine Run.iconst (v := nI 0) d_PM_coast_69 ic_0 ?_
    refine Run.putf d_PM_coast_70 fl_PM_94 (fun _ => rfl) (fun _ => rfl) (by first | rfl | assumption) (by exact Nat.le_of_ble_eq_true rfl) ?_
    refine run_hp (show _ = hX (f, nI n) cs2 cb 3 9 sd (ft2, fw2, cs2.2.2.2.2.2.1, nI 0, ke) tr (ac.1, nI 0) tu gi mo dn ch (s0.1, s0.2.1, s0.2.2.1, s0.2.2.2.1, nI 0) s1 ++ t from rfl) ?_
    first | refine Run.iinc_n d_PM_coast_73 ic_1 rfl rfl ?_ | refine Run.iinc d_PM_coast_73 rfl rfl rfl ?_
    show Run _ _ _ _ _ _ [_, _, _] _ _ _
    refine Run.goto d_PM_coast_76 ?_
    exact hy
theorem q_PM_coastA (hn : n ≤ 48) (hf : ∀ k, k < n → f k = nI (bt k) ∧ bt k < 256) : Call X (d + 4) 0 0 M_PM_coast [.ref 1] (hX (f, nI n) ca cb 9 3 sd nw tr ac tu gi mo dn ch s0 s1 ++ t) (fun r h2 => (¬ fltR bt n = -9 ∧ r = some (.int (-3)) ∧ ∃ cs2, h2 = hX (f, nI n) cs2 cb 9 3 sd nw tr ac tu gi mo dn ch s0 s1 ++ t) ∨ (∃ q cs2 ft2 fw2, psI bt n = some q ∧ q.1 = 2 ∧ r = some (.int (nI (ansC q))) ∧ PsR q cs2 ∧ (∀ j, j < 6 → ft2 j = nI 0 ∧ fw2 j = cs2.2.2.2.2.1 j) ∧ h2 = hX (f, nI n) cs2 cb 3 9 sd (ft2, fw2, cs2.2.2.2.2.2.1, nI 0, nw.2.2.2.2) tr (ac.1, nI 0) tu gi mo dn ch (s0.1, s0.2.1, s0.2.2.1, s0.2.2.2.1, nI 0) (s1.1, s1.2.1, s1.2.2.1, s1.2.2.2.1, nI 0) ++ t)) := by
  show Run X (d + 4) 0 0 M_PM_coast 0 [some (.ref 1), none, none] [] _ _
  obtain ⟨ft, fw, li, ho, ke⟩ := nw
  refine Run.aload_n d_PM_coast_0 rfl ?_
  refine Run.getf d_PM_coast_1 fl_PM_12 (by first | rfl | assumption) (by rfl) ?_
  refine Run.aload_n d_PM_coast_4 rfl ?_
  refine Run.getf d_PM_coast_5 fl_PM_23 (by first | rfl | assumption) (by rfl) ?_
  refine Run.V1 d_PM_coast_8 lk_PM_83 cm_Te_readInto iv_Te_readInto rfl (by first | rfl | assumption) (Nat.le_of_ble_eq_true rfl) (Nat.le_of_ble_eq_true rfl) (q_Te_readA hn hf rfl) (fun r8 h8 q8 => ?_)
  obtain ⟨rfl, cs2, rfl, hcs⟩ := q8
  refine Run.bipush (v := -9) d_PM_coast_11 bp_m9 ?_
  first | refine Run.icmp_eq_n d_PM_coast_13 (by omega) (by omega) (fun c13 => ?_) (fun c13 => ?_) | refine Run.icmp_eq d_PM_coast_13 (fun c13 => ?_) (fun c13 => ?_)
  · obtain ⟨q, hq, h2⟩ := flt_ok (by omega) c13
    have hr := hcs q hq
    have e1 : cs2.2.2.2.2.2.2.1 = nI (nhC (cCA q)) := hr.co.2.1
    have e2 : cs2.2.2.2.2.2.2.2 = nI (npC (cCA q)) := hr.co.2.2
    refine Run.aload_n d_PM_coast_19 rfl ?_
    refine Run.getf d_PM_coast_20 fl_PM_19 (by first | rfl | assumption) (by rfl) ?_
    refine Run.astore_n d_PM_coast_23 rfl rfl ?_
    show Run _ _ _ _ _ _ [_, _, _] _ _ _
    refine Run.aload_n d_PM_coast_24 rfl ?_
    refine Run.aload_n d_PM_coast_25 rfl ?_
    refine Run.getf d_PM_coast_26 fl_PM_23 (by first | rfl | assumption) (by rfl) ?_
    refine Run.putf d_PM_coast_29 fl_PM_19 (fun _ => rfl) (fun _ => rfl) (by first | rfl | assumption) (by exact Nat.le_of_ble_eq_true rfl) ?_
    refine Run.aload_n d_PM_coast_32 rfl ?_
    refine Run.aload_n d_PM_coast_33 rfl ?_
    refine Run.putf d_PM_coast_34 fl_PM_23 (fun _ => rfl) (fun _ => rfl) (by first | rfl | assumption) (by exact Nat.le_of_ble_eq_true rfl) ?_
    refine Run.aload_n d_PM_coast_37 rfl ?_
    refine Run.getf d_PM_coast_38 fl_PM_29 (by first | rfl | assumption) (by rfl) ?_
    refine Run.aload_n d_PM_coast_41 rfl ?_
    refine Run.getf d_PM_coast_42 fl_PM_19 (by first | rfl | assumption) (by rfl) ?_
    refine Run.V1 d_PM_coast_45 lk_PM_87 cm_St_begin iv_St_begin rfl (by first | rfl | assumption) (Nat.le_of_ble_eq_true rfl) (Nat.le_of_ble_eq_true rfl) (q_St_beginA (tx := (f, nI n)) (ca := cs2) (kt := 3) (kd := 9)) (fun r45 h45 q45 => ?_)
    obtain ⟨rfl, ft2, fw2, hb, rfl⟩ := q45
    refine Run.aload_n d_PM_coast_48 rfl ?_
    refine Run.getf d_PM_coast_49 fl_PM_43 (by first | rfl | assumption) (by rfl) ?_
    refine Run.iconst (v := nI 0) d_PM_coast_52 ic_0 ?_
    refine Run.putf d_PM_coast_53 fl_PM_91 (fun _ => rfl) (fun _ => rfl) (by first | rfl | assumption) (by exact Nat.le_of_ble_eq_true rfl) ?_
    refine Run.iconst (v := nI 0) d_PM_coast_56 ic_0 ?_
    refine Run.istore_n d_PM_coast_57 rfl rfl ?_
    show Run _ _ _ _ _ _ [_, _, _] _ _ _
    exact k58A hq h2 hr e1 e2 hb
  · refine Run.bipush (v := -3) d_PM_coast_16 bp_m3 ?_
    refine Run.iret d_PM_coast_18 rfl rfl ?_
    exact Or.inl ⟨c13, rfl, cs2, rfl⟩
theorem q_St_beginB {ft fw : FI} {li ho ke : Int32} : Call X d 0 0 M_St_begin [.ref 16, .ref 10] (hX tx ca cb kt kd sd (ft, fw, li, ho, ke) tr ac tu gi mo dn ch s0 s1 ++ t) (fun r h2 => r = none ∧ ∃ ft2 fw2 : FI, (∀ j, j < 6 → ft2 j = nI 0 ∧ fw2 j = cb.2.2.2.2.1 j) ∧ h2 = hX tx ca cb kt kd sd (ft2, fw2, cb.2.2.2.2.2.1, nI 0, ke) tr ac tu gi mo dn ch s0 s1 ++ t) := by
  show Run X d 0 0 M_St_begin 0 [some (.ref 16), some (.ref 10), none] [] _ _
  refine Run.iconst (v := nI 0) d_St_begin_0 ic_0 ?_
  refine Run.istore_n d_St_begin_1 rfl rfl ?_
  show Run _ _ _ _ _ _ [_, _, _] _ _ _
  refine upto 6 (fun i => ∀ ft2 fw2 : FI, (∀ j, j < i → ft2 j = nI 0 ∧ fw2 j = cb.2.2.2.2.1 j) → Run X d 0 0 M_St_begin 2 [some (.ref 16), some (.ref 10), some (.int (nI i))] [] (hX tx ca cb kt kd sd (ft2, fw2, li, ho, ke) tr ac tu gi mo dn ch s0 s1 ++ t) (fun r h2 => r = none ∧ ∃ ft2 fw2 : FI, (∀ j, j < 6 → ft2 j = nI 0 ∧ fw2 j = cb.2.2.2.2.1 j) ∧ h2 = hX tx ca cb kt kd sd (ft2, fw2, cb.2.2.2.2.2.1, nI 0, ke) tr ac tu gi mo dn ch s0 s1 ++ t)) ?_ 0 (Nat.zero_le _) ft fw (fun j hj => by omega)
  intro i hi ih ft2 fw2 he
  refine Run.iload_n d_St_begin_2 rfl ?_
  refine Run.bipush (v := nI 6) d_St_begin_3 bp_6 ?_
  first | refine Run.icmp_ge_n d_St_begin_5 (by omega) (by omega) (fun c5 => ?_) (fun c5 => ?_) | refine Run.icmp_ge d_St_begin_5 (fun c5 => ?_) (fun c5 => ?_)
  · refine Run.aload_n d_St_begin_33 rfl ?_
    refine Run.aload_n d_St_begin_34 rfl ?_
    refine Run.getf d_St_begin_35 fl_St_21 (by first | rfl | assumption) (by rfl) ?_
    refine Run.putf d_St_begin_38 fl_St_25 (fun _ => rfl) (fun _ => rfl) (by first | rfl | assumption) (by exact Nat.le_of_ble_eq_true rfl) ?_
    refine Run.aload_n d_St_begin_41 rfl ?_
    refine Run.iconst (v := nI 0) d_St_begin_42 ic_0 ?_
    refine Run.putf d_St_begin_43 fl_St_26 (fun _ => rfl) (fun _ => rfl) (by first | rfl | assumption) (by exact Nat.le_of_ble_eq_true rfl) ?_
    refine Run.vret d_St_begin_46 rfl ?_
    exact ⟨rfl, ft2, fw2, fun j hj => he j (by omega), rfl⟩
  · refine Run.aload_n d_St_begin_8 rfl ?_
    refine Run.getf d_St_begin_9 fl_St_9 (by first | rfl | assumption) (by rfl) ?_
    refine Run.iload_n d_St_begin_12 rfl ?_
    refine Run.iconst (v := nI 0) d_St_begin_13 ic_0 ?_
    refine Run.iast_n d_St_begin_14 (by first | rfl | assumption) (by omega) (by omega) ?_
    refine Run.aload_n d_St_begin_15 rfl ?_
    refine Run.getf d_St_begin_16 fl_St_15 (by first | rfl | assumption) (by rfl) ?_
    refine Run.iload_n d_St_begin_19 rfl ?_
    refine Run.aload_n d_St_begin_20 rfl ?_
    refine Run.getf d_St_begin_21 fl_St_18 (by first | rfl | assumption) (by rfl) ?_
    refine Run.iload_n d_St_begin_24 rfl ?_
    refine Run.iald_n d_St_begin_25 (by first | rfl | assumption) (by omega) (by omega) ?_
    refine Run.iast_n d_St_begin_26 (by first | rfl | assumption) (by omega) (by omega) ?_
    first | refine Run.iinc_n d_St_begin_27 ic_1 rfl rfl ?_ | refine Run.iinc d_St_begin_27 rfl rfl rfl ?_
    show Run _ _ _ _ _ _ [_, _, _] _ _ _
    refine Run.goto d_St_begin_30 ?_
    refine ih c5 (upd ft2 i (nI 0)) (upd fw2 i (cb.2.2.2.2.1 i)) (fun j hj => ?_)
    by_cases hji : j = i
    · subst hji; rw [pk_us, pk_us]; exact ⟨rfl, rfl⟩
    · rw [pk_un hji, pk_un hji]; exact he j (by omega)
theorem q_PM_faultB (hn : n ≤ 48) (hf : ∀ k, k < n → f k = nI (bt k) ∧ bt k < 256) : Call X (d + 4) 0 0 M_PM_fault [.ref 1] (hX (f, nI n) ca cb 3 9 sd nw tr ac tu gi mo dn ch s0 s1 ++ t) (fun r h2 => r = some (.int (fltR bt n)) ∧ ∃ cs2, h2 = hX (f, nI n) ca cs2 3 9 sd nw tr ac tu gi mo dn ch s0 s1 ++ t) := by
  show Run X (d + 4) 0 0 M_PM_fault 0 [some (.ref 1)] [] _ _
  refine Run.aload_n d_PM_fault_0 rfl ?_
  refine Run.getf d_PM_fault_1 fl_PM_12 (by first | rfl | assumption) (by rfl) ?_
  refine Run.aload_n d_PM_fault_4 rfl ?_
  refine Run.getf d_PM_fault_5 fl_PM_23 (by first | rfl | assumption) (by rfl) ?_
  refine Run.V1 d_PM_fault_8 lk_PM_83 cm_Te_readInto iv_Te_readInto rfl (by first | rfl | assumption) (Nat.le_of_ble_eq_true rfl) (Nat.le_of_ble_eq_true rfl) (q_Te_readB hn hf rfl) (fun r8 h8 q8 => ?_)
  obtain ⟨rfl, cs2, rfl, -⟩ := q8
  refine Run.iret d_PM_fault_11 rfl rfl ?_
  exact ⟨rfl, cs2, rfl⟩
theorem k58B {q : PS} {cs2 : CoS} {ft fw ft2 fw2 : FI} {li ho ke : Int32} {v1 : Nat} (hq : psI bt n = some q) (h2 : q.1 = 2) (hr : PsR q cs2) (e1 : cs2.2.2.2.2.2.2.1 = nI (nhC (cCA q))) (e2 : cs2.2.2.2.2.2.2.2 = nI (npC (cCA q))) (hb : ∀ j, j < 6 → ft2 j = nI 0 ∧ fw2 j = cs2.2.2.2.2.1 j) : Run X (d + 4) 0 0 M_PM_coast 58 [some (.ref 1), some (.ref v1), some (.int (nI 0))] [] (hX (f, nI n) ca cs2 9 3 sd (ft2, fw2, cs2.2.2.2.2.2.1, nI 0, ke) tr (ac.1, nI 0) tu gi mo dn ch s0 s1 ++ t) (fun r h2 => (¬ fltR bt n = -9 ∧ r = some (.int (-3)) ∧ ∃ cs2, h2 = hX (f, nI n) ca cs2 3 9 sd (ft, fw, li, ho, ke) tr ac tu gi mo dn ch s0 s1 ++ t) ∨ (∃ q cs2 ft2 fw2, psI bt n = some q ∧ q.1 = 2 ∧ r = some (.int (nI (ansC q))) ∧ PsR q cs2 ∧ (∀ j, j < 6 → ft2 j = nI 0 ∧ fw2 j = cs2.2.2.2.2.1 j) ∧ h2 = hX (f, nI n) ca cs2 9 3 sd (ft2, fw2, cs2.2.2.2.2.2.1, nI 0, ke) tr (ac.1, nI 0) tu gi mo dn ch (s0.1, s0.2.1, s0.2.2.1, s0.2.2.2.1, nI 0) (s1.1, s1.2.1, s1.2.2.1, s1.2.2.2.1, nI 0) ++ t)) := by
  have hz : Run X (d + 4) 0 0 M_PM_coast 58 [some (.ref 1), some (.ref v1), some (.int (nI 2))] [] (hX (f, nI n) ca cs2 9 3 sd (ft2, fw2, cs2.2.2.2.2.2.1, nI 0, ke) tr (ac.1, nI 0) tu gi mo dn ch (s0.1, s0.2.1, s0.2.2.1, s0.2.2.2.1, nI 0) (s1.1, s1.2.1, s1.2.2.1, s1.2.2.2.1, nI 0) ++ t) (fun r h2 => (¬ fltR bt n = -9 ∧ r = some (.int (-3)) ∧ ∃ cs2, h2 = hX (f, nI n) ca cs2 3 9 sd (ft, fw, li, ho, ke) tr ac tu gi mo dn ch s0 s1 ++ t) ∨ (∃ q cs2 ft2 fw2, psI bt n = some q ∧ q.1 = 2 ∧ r = some (.int (nI (ansC q))) ∧ PsR q cs2 ∧ (∀ j, j < 6 → ft2 j = nI 0 ∧ fw2 j = cs2.2.2.2.2.1 j) ∧ h2 = hX (f, nI n) ca cs2 9 3 sd (ft2, fw2, cs2.2.2.2.2.2.1, nI 0, ke) tr (ac.1, nI 0) tu gi mo dn ch (s0.1, s0.2.1, s0.2.2.1, s0.2.2.2.1, nI 0) (s1.1, s1.2.1, s1.2.2.1, s1.2.2.2.1, nI 0) ++ t)) := by
    refine Run.iload_n d_PM_coast_58 rfl ?_
    refine Run.iconst (v := nI 2) d_PM_coast_59 ic_2 ?_
    first | refine Run.icmp_ge_n d_PM_coast_60 (by omega) (by omega) (fun c60 => ?_) (fun c60 => ?_) | refine Run.icmp_ge d_PM_coast_60 (fun c60 => ?_) (fun c60 => ?_)
    · refine Run.bipush (v := nI 10) d_PM_coast_79 bp_10 ?_
      refine Run.aload_n d_PM_coast_81 rfl ?_
      refine Run.getf d_PM_coast_82 fl_PM_19 (by first | rfl | assumption) (by rfl) ?_
      refine Run.getf d_PM_coast_85 fl_PM_98 (by first | rfl | assumption) (by rfl) ?_
      rw [e1]
      first | refine Run.imul_n d_PM_coast_88 ?_ | refine Run.imul d_PM_coast_88 ?_
      refine Run.aload_n d_PM_coast_89 rfl ?_
      refine Run.getf d_PM_coast_90 fl_PM_19 (by first | rfl | assumption) (by rfl) ?_
      refine Run.getf d_PM_coast_93 fl_PM_101 (by first | rfl | assumption) (by rfl) ?_
      rw [e2]
      first | refine Run.iadd_n d_PM_coast_96 ?_ | refine Run.iadd d_PM_coast_96 ?_
      refine Run.iret d_PM_coast_97 rfl rfl ?_
      exact Or.inr ⟨q, cs2, ft2, fw2, hq, h2, rfl, hr, hb, rfl⟩
    · omega
  have hy : Run X (d + 4) 0 0 M_PM_coast 58 [some (.ref 1), some (.ref v1), some (.int (nI 1))] [] (hX (f, nI n) ca cs2 9 3 sd (ft2, fw2, cs2.2.2.2.2.2.1, nI 0, ke) tr (ac.1, nI 0) tu gi mo dn ch (s0.1, s0.2.1, s0.2.2.1, s0.2.2.2.1, nI 0) s1 ++ t) (fun r h2 => (¬ fltR bt n = -9 ∧ r = some (.int (-3)) ∧ ∃ cs2, h2 = hX (f, nI n) ca cs2 3 9 sd (ft, fw, li, ho, ke) tr ac tu gi mo dn ch s0 s1 ++ t) ∨ (∃ q cs2 ft2 fw2, psI bt n = some q ∧ q.1 = 2 ∧ r = some (.int (nI (ansC q))) ∧ PsR q cs2 ∧ (∀ j, j < 6 → ft2 j = nI 0 ∧ fw2 j = cs2.2.2.2.2.1 j) ∧ h2 = hX (f, nI n) ca cs2 9 3 sd (ft2, fw2, cs2.2.2.2.2.2.1, nI 0, ke) tr (ac.1, nI 0) tu gi mo dn ch (s0.1, s0.2.1, s0.2.2.1, s0.2.2.2.1, nI 0) (s1.1, s1.2.1, s1.2.2.1, s1.2.2.2.1, nI 0) ++ t)) := by
    refine Run.iload_n d_PM_coast_58 rfl ?_
    refine Run.iconst (v := nI 2) d_PM_coast_59 ic_2 ?_
    first | refine Run.icmp_ge_n d_PM_coast_60 (by omega) (by omega) (fun c60 => ?_) (fun c60 => ?_) | refine Run.icmp_ge d_PM_coast_60 (fun c60 => ?_) (fun c60 => ?_)
    · omega
    · refine Run.aload_n d_PM_coast_63 rfl ?_
      refine Run.getf d_PM_coast_64 fl_PM_36 (by first | rfl | assumption) (by rfl) ?_
      refine Run.iload_n d_PM_coast_67 rfl ?_
      refine Run.aald_n d_PM_coast_68 (by first | rfl | assumption) (by omega) (by omega) (by rfl) ?_
      refine Run.iconst (v := nI 0) d_PM_coast_69 ic_0 ?_
      refine Run.putf d_PM_coast_70 fl_PM_94 (fun _ => rfl) (fun _ => rfl) (by first | rfl | assumption) (by exact Nat.le_of_ble_eq_true rfl) ?_
      refine run_hp (show _ = hX (f, nI n) ca cs2 9 3 sd (ft2, fw2, cs2.2.2.2.2.2.1, nI 0, ke) tr (ac.1, nI 0) tu gi mo dn ch (s0.1, s0.2.1, s0.2.2.1, s0.2.2.2.1, nI 0) (s1.1, s1.2.1, s1.2.2.1, s1.2.2.2.1, nI 0) ++ t from rfl) ?_
      first | refine Run.iinc_n d_PM_coast_73 ic_1 rfl rfl ?_ | refine Run.iinc d_PM_coast_73 rfl rfl rfl ?_
      show Run _ _ _ _ _ _ [_, _, _] _ _ _
      refine Run.goto d_PM_coast_76 ?_
      exact hz
  refine Run.iload_n d_PM_coast_58 rfl ?_
  refine Run.iconst (v := nI 2) d_PM_coast_59 ic_2 ?_
  first | refine Run.icmp_ge_n d_PM_coast_60 (by omega) (by omega) (fun c60 => ?_) (fun c60 => ?_) | refine Run.icmp_ge d_PM_coast_60 (fun c60 => ?_) (fun c60 => ?_)
  · omega
  · refine Run.aload_n d_PM_coast_63 rfl ?_
    refine Run.getf d_PM_coast_64 fl_PM_36 (by first | rfl | assumption) (by rfl) ?_
    refine Run.iload_n d_PM_coast_67 rfl ?_
    refine Run.aald_n d_PM_coast_68 (by first | rfl | assumption) (by omega) (by omega) (by rfl) ?_
    refine Run.iconst (v := nI 0) d_PM_coast_69 ic_0 ?_
    refine Run.putf d_PM_coast_70 fl_PM_94 (fun _ => rfl) (fun _ => rfl) (by first | rfl | assumption) (by exact Nat.le_of_ble_eq_true rfl) ?_
    refine run_hp (show _ = hX (f, nI n) ca cs2 9 3 sd (ft2, fw2, cs2.2.2.2.2.2.1, nI 0, ke) tr (ac.1, nI 0) tu gi mo dn ch (s0.1, s0.2.1, s0.2.2.1, s0.2.2.2.1, nI 0) s1 ++ t from rfl) ?_
    first | refine Run.iinc_n d_PM_coast_73 ic_1 rfl rfl ?_ | refine Run.iinc d_PM_coast_73 rfl rfl rfl ?_
    show Run _ _ _ _ _ _ [_, _, _] _ _ _
    refine Run.goto d_PM_coast_76 ?_
    exact hy
theorem q_PM_coastB (hn : n ≤ 48) (hf : ∀ k, k < n → f k = nI (bt k) ∧ bt k < 256) : Call X (d + 4) 0 0 M_PM_coast [.ref 1] (hX (f, nI n) ca cb 3 9 sd nw tr ac tu gi mo dn ch s0 s1 ++ t) (fun r h2 => (¬ fltR bt n = -9 ∧ r = some (.int (-3)) ∧ ∃ cs2, h2 = hX (f, nI n) ca cs2 3 9 sd nw tr ac tu gi mo dn ch s0 s1 ++ t) ∨ (∃ q cs2 ft2 fw2, psI bt n = some q ∧ q.1 = 2 ∧ r = some (.int (nI (ansC q))) ∧ PsR q cs2 ∧ (∀ j, j < 6 → ft2 j = nI 0 ∧ fw2 j = cs2.2.2.2.2.1 j) ∧ h2 = hX (f, nI n) ca cs2 9 3 sd (ft2, fw2, cs2.2.2.2.2.2.1, nI 0, nw.2.2.2.2) tr (ac.1, nI 0) tu gi mo dn ch (s0.1, s0.2.1, s0.2.2.1, s0.2.2.2.1, nI 0) (s1.1, s1.2.1, s1.2.2.1, s1.2.2.2.1, nI 0) ++ t)) := by
  show Run X (d + 4) 0 0 M_PM_coast 0 [some (.ref 1), none, none] [] _ _
  obtain ⟨ft, fw, li, ho, ke⟩ := nw
  refine Run.aload_n d_PM_coast_0 rfl ?_
  refine Run.getf d_PM_coast_1 fl_PM_12 (by first | rfl | assumption) (by rfl) ?_
  refine Run.aload_n d_PM_coast_4 rfl ?_
  refine Run.getf d_PM_coast_5 fl_PM_23 (by first | rfl | assumption) (by rfl) ?_
  refine Run.V1 d_PM_coast_8 lk_PM_83 cm_Te_readInto iv_Te_readInto rfl (by first | rfl | assumption) (Nat.le_of_ble_eq_true rfl) (Nat.le_of_ble_eq_true rfl) (q_Te_readB hn hf rfl) (fun r8 h8 q8 => ?_)
  obtain ⟨rfl, cs2, rfl, hcs⟩ := q8
  refine Run.bipush (v := -9) d_PM_coast_11 bp_m9 ?_
  first | refine Run.icmp_eq_n d_PM_coast_13 (by omega) (by omega) (fun c13 => ?_) (fun c13 => ?_) | refine Run.icmp_eq d_PM_coast_13 (fun c13 => ?_) (fun c13 => ?_)
  · obtain ⟨q, hq, h2⟩ := flt_ok (by omega) c13
    have hr := hcs q hq
    have e1 : cs2.2.2.2.2.2.2.1 = nI (nhC (cCA q)) := hr.co.2.1
    have e2 : cs2.2.2.2.2.2.2.2 = nI (npC (cCA q)) := hr.co.2.2
    refine Run.aload_n d_PM_coast_19 rfl ?_
    refine Run.getf d_PM_coast_20 fl_PM_19 (by first | rfl | assumption) (by rfl) ?_
    refine Run.astore_n d_PM_coast_23 rfl rfl ?_
    show Run _ _ _ _ _ _ [_, _, _] _ _ _
    refine Run.aload_n d_PM_coast_24 rfl ?_
    refine Run.aload_n d_PM_coast_25 rfl ?_
    refine Run.getf d_PM_coast_26 fl_PM_23 (by first | rfl | assumption) (by rfl) ?_
    refine Run.putf d_PM_coast_29 fl_PM_19 (fun _ => rfl) (fun _ => rfl) (by first | rfl | assumption) (by exact Nat.le_of_ble_eq_true rfl) ?_
    refine Run.aload_n d_PM_coast_32 rfl ?_
    refine Run.aload_n d_PM_coast_33 rfl ?_
    refine Run.putf d_PM_coast_34 fl_PM_23 (fun _ => rfl) (fun _ => rfl) (by first | rfl | assumption) (by exact Nat.le_of_ble_eq_true rfl) ?_
    refine Run.aload_n d_PM_coast_37 rfl ?_
    refine Run.getf d_PM_coast_38 fl_PM_29 (by first | rfl | assumption) (by rfl) ?_
    refine Run.aload_n d_PM_coast_41 rfl ?_
    refine Run.getf d_PM_coast_42 fl_PM_19 (by first | rfl | assumption) (by rfl) ?_
    refine Run.V1 d_PM_coast_45 lk_PM_87 cm_St_begin iv_St_begin rfl (by first | rfl | assumption) (Nat.le_of_ble_eq_true rfl) (Nat.le_of_ble_eq_true rfl) (q_St_beginB (tx := (f, nI n)) (cb := cs2) (kt := 9) (kd := 3)) (fun r45 h45 q45 => ?_)
    obtain ⟨rfl, ft2, fw2, hb, rfl⟩ := q45
    refine Run.aload_n d_PM_coast_48 rfl ?_
    refine Run.getf d_PM_coast_49 fl_PM_43 (by first | rfl | assumption) (by rfl) ?_
    refine Run.iconst (v := nI 0) d_PM_coast_52 ic_0 ?_
    refine Run.putf d_PM_coast_53 fl_PM_91 (fun _ => rfl) (fun _ => rfl) (by first | rfl | assumption) (by exact Nat.le_of_ble_eq_true rfl) ?_
    refine Run.iconst (v := nI 0) d_PM_coast_56 ic_0 ?_
    refine Run.istore_n d_PM_coast_57 rfl rfl ?_
    show Run _ _ _ _ _ _ [_, _, _] _ _ _
    exact k58B hq h2 hr e1 e2 hb
  · refine Run.bipush (v := -3) d_PM_coast_16 bp_m3 ?_
    refine Run.iret d_PM_coast_18 rfl rfl ?_
    exact Or.inl ⟨c13, rfl, cs2, rfl⟩
end COAST
section RCOAST
variable {X : Nat × (Nat → Int32)} {d : Nat} {f0 : Nat → AC} {tx ho pi rh rp pg tr bk kp ik ta tp ga gr va rw : FI} {z1 z2 z3 z4 z5 z6 z7 z8 z9 y1 y2 y3 y4 : Int32} {sd : Int64} {n : Nat} {bt : Nat → Nat}
/-- what the reference has of a coast that was read -/
def RcV (np : Nat) (z5 : Int32) (rh rp ho pi pg : FI) : Prop := (∀ j, j < 4 → ho j = rh j) ∧ (∀ i, i < np → ∀ k, k < 3 → pi (3 * i + k) = rp (4 * i + k)) ∧ (∀ i, i < 6 → pg i = nI 0) ∧ (∀ i, i < np → pg (6 + i) = rp (4 * i + 3)) ∧ pg 12 = z5 ∧ pg 13 = nI 0
theorem r_rcoast147 {nh np : Nat} {v1 v2 : Option Value} (hV1 : ∀ j, j < 4 → ho j = rh j) (hV2 : ∀ i, i < np → ∀ k, k < 3 → pi (3 * i + k) = rp (4 * i + k)) (hV3 : ∀ i, i < 6 → pg i = nI 0) (hV4 : ∀ i, i < np → pg (6 + i) = rp (4 * i + 3)) (hV5 : pg 13 = nI 0) (hnp : np ≤ 6) : Run X (d + 5) 0 0 M_Rf_coast 147 [some (.ref 44), v1, v2] [] (PX f0 ++ hMx (nI n) z2 (nI nh) (nI np) z5 (nI nh) (nI np) z8 z9 sd y1 y2 y3 y4 tx ho pi rh rp pg tr bk kp ik ta tp ga gr va rw) (fun r h2 => r = some (.int (nI (10 * nh + np))) ∧ ∃ ho2 pi2 pg2 : FI, RcV np z5 rh rp ho2 pi2 pg2 ∧ h2 = PX f0 ++ hMx (nI n) z2 (nI nh) (nI np) z5 (nI nh) (nI np) (nI 0) z9 sd y1 y2 y3 y4 tx ho2 pi2 rh rp pg2 tr bk kp (upd (upd ik 0 (nI 0)) 1 (nI 0)) ta tp ga gr va rw) := by
  refine Run.aload_n d_Rf_coast_147 rfl ?_
  refine Run.getf d_Rf_coast_148 fl_Rf_25 (by first | rfl | assumption) (by rfl) ?_
  refine Run.bipush (v := nI 12) d_Rf_coast_151 bp_12 ?_
  refine Run.aload_n d_Rf_coast_153 rfl ?_
  refine Run.getf d_Rf_coast_154 fl_Rf_98 (by first | rfl | assumption) (by rfl) ?_
  refine Run.iast_n d_Rf_coast_157 (by first | rfl | assumption) (by omega) (by omega) ?_
  refine Run.aload_n d_Rf_coast_158 rfl ?_
  refine Run.iconst (v := nI 0) d_Rf_coast_159 ic_0 ?_
  refine Run.putf d_Rf_coast_160 fl_Rf_108 (fun _ => rfl) (fun _ => rfl) (by first | rfl | assumption) (by exact Nat.le_of_ble_eq_true rfl) ?_
  refine Run.aload_n d_Rf_coast_163 rfl ?_
  refine Run.getf d_Rf_coast_164 fl_Rf_37 (by first | rfl | assumption) (by rfl) ?_
  refine Run.iconst (v := nI 0) d_Rf_coast_167 ic_0 ?_
  refine Run.iconst (v := nI 0) d_Rf_coast_168 ic_0 ?_
  refine Run.zast_n d_Rf_coast_169 (by first | rfl | assumption) (by omega) (by omega) (by first | exact bI_vnar _ | decide +kernel) ?_
  refine Run.aload_n d_Rf_coast_170 rfl ?_
  refine Run.getf d_Rf_coast_171 fl_Rf_37 (by first | rfl | assumption) (by rfl) ?_
  refine Run.iconst (v := nI 1) d_Rf_coast_174 ic_1 ?_
  refine Run.iconst (v := nI 0) d_Rf_coast_175 ic_0 ?_
  refine Run.zast_n d_Rf_coast_176 (by first | rfl | assumption) (by omega) (by omega) (by first | exact bI_vnar _ | decide +kernel) ?_
  refine Run.bipush (v := nI 10) d_Rf_coast_177 bp_10 ?_
  refine Run.aload_n d_Rf_coast_179 rfl ?_
  refine Run.getf d_Rf_coast_180 fl_Rf_63 (by first | rfl | assumption) (by rfl) ?_
  first | refine Run.imul_n d_Rf_coast_183 ?_ | refine Run.imul d_Rf_coast_183 ?_
  refine Run.aload_n d_Rf_coast_184 rfl ?_
  refine Run.getf d_Rf_coast_185 fl_Rf_70 (by first | rfl | assumption) (by rfl) ?_
  first | refine Run.iadd_n d_Rf_coast_188 ?_ | refine Run.iadd d_Rf_coast_188 ?_
  refine Run.iret d_Rf_coast_189 rfl rfl ?_
  refine ⟨rfl, ho, pi, upd pg 12 z5, ⟨hV1, hV2, fun i hi => ?_, fun i hi => ?_, pk_us, ?_⟩, rfl⟩
  · rw [pk_un (by omega)]; exact hV3 i hi
  · rw [pk_un (by omega)]; exact hV4 i hi
  · rw [pk_un (by omega)]; exact hV5
theorem r_rcoast81 {nh np : Nat} {v2 : Option Value} (hV1 : ∀ j, j < 4 → ho j = rh j) (hV3 : ∀ i, i < 14 → pg i = nI 0) (hnp : np ≤ 6) : Run X (d + 5) 0 0 M_Rf_coast 81 [some (.ref 44), some (.int (nI 0)), v2] [] (PX f0 ++ hMx (nI n) z2 (nI nh) (nI np) z5 (nI nh) (nI np) z8 z9 sd y1 y2 y3 y4 tx ho pi rh rp pg tr bk kp ik ta tp ga gr va rw) (fun r h2 => r = some (.int (nI (10 * nh + np))) ∧ ∃ ho2 pi2 pg2 : FI, RcV np z5 rh rp ho2 pi2 pg2 ∧ h2 = PX f0 ++ hMx (nI n) z2 (nI nh) (nI np) z5 (nI nh) (nI np) (nI 0) z9 sd y1 y2 y3 y4 tx ho2 pi2 rh rp pg2 tr bk kp (upd (upd ik 0 (nI 0)) 1 (nI 0)) ta tp ga gr va rw) := by
  refine upto np (fun c => ∀ (pi pg : FI) v2, (∀ i, i < c → ∀ k, k < 3 → pi (3 * i + k) = rp (4 * i + k)) → (∀ i, i < 6 → pg i = nI 0) → (∀ i, i < c → pg (6 + i) = rp (4 * i + 3)) → pg 13 = nI 0 → Run X (d + 5) 0 0 M_Rf_coast 81 [some (.ref 44), some (.int (nI c)), v2] [] (PX f0 ++ hMx (nI n) z2 (nI nh) (nI np) z5 (nI nh) (nI np) z8 z9 sd y1 y2 y3 y4 tx ho pi rh rp pg tr bk kp ik ta tp ga gr va rw) (fun r h2 => r = some (.int (nI (10 * nh + np))) ∧ ∃ ho2 pi2 pg2 : FI, RcV np z5 rh rp ho2 pi2 pg2 ∧ h2 = PX f0 ++ hMx (nI n) z2 (nI nh) (nI np) z5 (nI nh) (nI np) (nI 0) z9 sd y1 y2 y3 y4 tx ho2 pi2 rh rp pg2 tr bk kp (upd (upd ik 0 (nI 0)) 1 (nI 0)) ta tp ga gr va rw)) ?_ 0 (Nat.zero_le _) pi pg v2 (fun i hi => by omega) (fun i hi => hV3 i (by omega)) (fun i hi => by omega) (hV3 13 (by omega))
  intro c hc ih pi pg v2 h1 h2 h3 h4
  have h122 : c < np → ∀ (pi : FI) v2, (∀ i, i < c → ∀ k, k < 3 → pi (3 * i + k) = rp (4 * i + k)) → (∀ k, k < 3 → pi (3 * c + k) = rp (4 * c + k)) → Run X (d + 5) 0 0 M_Rf_coast 122 [some (.ref 44), some (.int (nI c)), v2] [] (PX f0 ++ hMx (nI n) z2 (nI nh) (nI np) z5 (nI nh) (nI np) z8 z9 sd y1 y2 y3 y4 tx ho pi rh rp pg tr bk kp ik ta tp ga gr va rw) (fun r h2 => r = some (.int (nI (10 * nh + np))) ∧ ∃ ho2 pi2 pg2 : FI, RcV np z5 rh rp ho2 pi2 pg2 ∧ h2 = PX f0 ++ hMx (nI n) z2 (nI nh) (nI np) z5 (nI nh) (nI np) (nI 0) z9 sd y1 y2 y3 y4 tx ho2 pi2 rh rp pg2 tr bk kp (upd (upd ik 0 (nI 0)) 1 (nI 0)) ta tp ga gr va rw) := by
    intro hlt pi v2 g1 g2
    refine Run.aload_n d_Rf_coast_122 rfl ?_
    refine Run.getf d_Rf_coast_123 fl_Rf_25 (by first | rfl | assumption) (by rfl) ?_
    refine Run.bipush (v := nI 6) d_Rf_coast_126 bp_6 ?_
    refine Run.iload_n d_Rf_coast_128 rfl ?_
    first | refine Run.iadd_n d_Rf_coast_129 ?_ | refine Run.iadd d_Rf_coast_129 ?_
    refine Run.aload_n d_Rf_coast_130 rfl ?_
    refine Run.getf d_Rf_coast_131 fl_Rf_22 (by first | rfl | assumption) (by rfl) ?_
    refine Run.iconst (v := nI 4) d_Rf_coast_134 ic_4 ?_
    refine Run.iload_n d_Rf_coast_135 rfl ?_
    first | refine Run.imul_n d_Rf_coast_136 ?_ | refine Run.imul d_Rf_coast_136 ?_
    refine Run.iconst (v := nI 3) d_Rf_coast_137 ic_3 ?_
    first | refine Run.iadd_n d_Rf_coast_138 ?_ | refine Run.iadd d_Rf_coast_138 ?_
    refine Run.iald_n d_Rf_coast_139 (by first | rfl | assumption) (by omega) (by omega) ?_
    refine Run.iast_n d_Rf_coast_140 (by first | rfl | assumption) (by omega) (by omega) ?_
    first | refine Run.iinc_n d_Rf_coast_141 ic_1 rfl rfl ?_ | refine Run.iinc d_Rf_coast_141 rfl rfl rfl ?_
    show Run _ _ _ _ _ _ [_, _, _] _ _ _
    refine Run.goto d_Rf_coast_144 ?_
    refine ih hlt pi (upd pg (6 + c) (rp (4 * c + 3))) _ (fun i hi k hk => ?_) (fun i hi => ?_) (fun i hi => ?_) ?_
    · by_cases e : i = c
      · subst e; exact g2 k hk
      · exact g1 i (by omega) k hk
    · rw [pk_un (by omega)]; exact h2 i hi
    · by_cases e : i = c
      · subst e; exact pk_us
      · rw [pk_un (by omega)]; exact h3 i (by omega)
    · rw [pk_un (by omega)]; exact h4
  have h91 : c < np → Run X (d + 5) 0 0 M_Rf_coast 91 [some (.ref 44), some (.int (nI c)), some (.int (nI 0))] [] (PX f0 ++ hMx (nI n) z2 (nI nh) (nI np) z5 (nI nh) (nI np) z8 z9 sd y1 y2 y3 y4 tx ho pi rh rp pg tr bk kp ik ta tp ga gr va rw) (fun r h2 => r = some (.int (nI (10 * nh + np))) ∧ ∃ ho2 pi2 pg2 : FI, RcV np z5 rh rp ho2 pi2 pg2 ∧ h2 = PX f0 ++ hMx (nI n) z2 (nI nh) (nI np) z5 (nI nh) (nI np) (nI 0) z9 sd y1 y2 y3 y4 tx ho2 pi2 rh rp pg2 tr bk kp (upd (upd ik 0 (nI 0)) 1 (nI 0)) ta tp ga gr va rw) := by
    intro hlt
    refine upto 3 (fun k => ∀ pi : FI, (∀ i, i < c → ∀ k, k < 3 → pi (3 * i + k) = rp (4 * i + k)) → (∀ j, j < k → pi (3 * c + j) = rp (4 * c + j)) → Run X (d + 5) 0 0 M_Rf_coast 91 [some (.ref 44), some (.int (nI c)), some (.int (nI k))] [] (PX f0 ++ hMx (nI n) z2 (nI nh) (nI np) z5 (nI nh) (nI np) z8 z9 sd y1 y2 y3 y4 tx ho pi rh rp pg tr bk kp ik ta tp ga gr va rw) (fun r h2 => r = some (.int (nI (10 * nh + np))) ∧ ∃ ho2 pi2 pg2 : FI, RcV np z5 rh rp ho2 pi2 pg2 ∧ h2 = PX f0 ++ hMx (nI n) z2 (nI nh) (nI np) z5 (nI nh) (nI np) (nI 0) z9 sd y1 y2 y3 y4 tx ho2 pi2 rh rp pg2 tr bk kp (upd (upd ik 0 (nI 0)) 1 (nI 0)) ta tp ga gr va rw)) ?_ 0 (Nat.zero_le _) pi h1 (fun j hj => by omega)
    intro k hk ih2 pi g1 g2
    refine Run.iload_n d_Rf_coast_91 rfl ?_
    refine Run.iconst (v := nI 3) d_Rf_coast_92 ic_3 ?_
    first | refine Run.icmp_ge_n d_Rf_coast_93 (by omega) (by omega) (fun c93 => ?_) (fun c93 => ?_) | refine Run.icmp_ge d_Rf_coast_93 (fun c93 => ?_) (fun c93 => ?_)
    · exact h122 hlt pi _ g1 (fun j hj => g2 j (by omega))
    · refine Run.aload_n d_Rf_coast_96 rfl ?_
      refine Run.getf d_Rf_coast_97 fl_Rf_16 (by first | rfl | assumption) (by rfl) ?_
      refine Run.iconst (v := nI 3) d_Rf_coast_100 ic_3 ?_
      refine Run.iload_n d_Rf_coast_101 rfl ?_
      first | refine Run.imul_n d_Rf_coast_102 ?_ | refine Run.imul d_Rf_coast_102 ?_
      refine Run.iload_n d_Rf_coast_103 rfl ?_
      first | refine Run.iadd_n d_Rf_coast_104 ?_ | refine Run.iadd d_Rf_coast_104 ?_
      refine Run.aload_n d_Rf_coast_105 rfl ?_
      refine Run.getf d_Rf_coast_106 fl_Rf_22 (by first | rfl | assumption) (by rfl) ?_
      refine Run.iconst (v := nI 4) d_Rf_coast_109 ic_4 ?_
      refine Run.iload_n d_Rf_coast_110 rfl ?_
      first | refine Run.imul_n d_Rf_coast_111 ?_ | refine Run.imul d_Rf_coast_111 ?_
      refine Run.iload_n d_Rf_coast_112 rfl ?_
      first | refine Run.iadd_n d_Rf_coast_113 ?_ | refine Run.iadd d_Rf_coast_113 ?_
      refine Run.iald_n d_Rf_coast_114 (by first | rfl | assumption) (by omega) (by omega) ?_
      refine Run.iast_n d_Rf_coast_115 (by first | rfl | assumption) (by omega) (by omega) ?_
      first | refine Run.iinc_n d_Rf_coast_116 ic_1 rfl rfl ?_ | refine Run.iinc d_Rf_coast_116 rfl rfl rfl ?_
      show Run _ _ _ _ _ _ [_, _, _] _ _ _
      refine Run.goto d_Rf_coast_119 ?_
      refine ih2 c93 (upd pi (3 * c + k) (rp (4 * c + k))) (fun i hi j hj => ?_) (fun j hj => ?_)
      · rw [pk_un (by omega)]; exact g1 i hi j hj
      · by_cases e : j = k
        · subst e; exact pk_us
        · rw [pk_un (by omega)]; exact g2 j (by omega)
  refine Run.iload_n d_Rf_coast_81 rfl ?_
  refine Run.aload_n d_Rf_coast_82 rfl ?_
  refine Run.getf d_Rf_coast_83 fl_Rf_70 (by first | rfl | assumption) (by rfl) ?_
  first | refine Run.icmp_ge_n d_Rf_coast_86 (by omega) (by omega) (fun c86 => ?_) (fun c86 => ?_) | refine Run.icmp_ge d_Rf_coast_86 (fun c86 => ?_) (fun c86 => ?_)
  · have e8 : c = np := by omega
    subst e8
    exact r_rcoast147 hV1 h1 h2 h3 h4 hnp
  · refine Run.iconst (v := nI 0) d_Rf_coast_89 ic_0 ?_
    refine Run.istore_n d_Rf_coast_90 rfl rfl ?_
    show Run _ _ _ _ _ _ [_, _, _] _ _ _
    exact h91 c86
theorem r_rcoast60 {nh np : Nat} {v2 : Option Value} (hV1 : ∀ j, j < 4 → ho j = rh j) (hnp : np ≤ 6) : Run X (d + 5) 0 0 M_Rf_coast 60 [some (.ref 44), some (.int (nI 0)), v2] [] (PX f0 ++ hMx (nI n) z2 (nI nh) (nI np) z5 (nI nh) (nI np) z8 z9 sd y1 y2 y3 y4 tx ho pi rh rp pg tr bk kp ik ta tp ga gr va rw) (fun r h2 => r = some (.int (nI (10 * nh + np))) ∧ ∃ ho2 pi2 pg2 : FI, RcV np z5 rh rp ho2 pi2 pg2 ∧ h2 = PX f0 ++ hMx (nI n) z2 (nI nh) (nI np) z5 (nI nh) (nI np) (nI 0) z9 sd y1 y2 y3 y4 tx ho2 pi2 rh rp pg2 tr bk kp (upd (upd ik 0 (nI 0)) 1 (nI 0)) ta tp ga gr va rw) := by
  refine upto 14 (fun i => ∀ pg : FI, (∀ j, j < i → pg j = nI 0) → Run X (d + 5) 0 0 M_Rf_coast 60 [some (.ref 44), some (.int (nI i)), v2] [] (PX f0 ++ hMx (nI n) z2 (nI nh) (nI np) z5 (nI nh) (nI np) z8 z9 sd y1 y2 y3 y4 tx ho pi rh rp pg tr bk kp ik ta tp ga gr va rw) (fun r h2 => r = some (.int (nI (10 * nh + np))) ∧ ∃ ho2 pi2 pg2 : FI, RcV np z5 rh rp ho2 pi2 pg2 ∧ h2 = PX f0 ++ hMx (nI n) z2 (nI nh) (nI np) z5 (nI nh) (nI np) (nI 0) z9 sd y1 y2 y3 y4 tx ho2 pi2 rh rp pg2 tr bk kp (upd (upd ik 0 (nI 0)) 1 (nI 0)) ta tp ga gr va rw)) ?_ 0 (Nat.zero_le _) pg (fun j hj => by omega)
  intro i hi ih pg he
  refine Run.iload_n d_Rf_coast_60 rfl ?_
  refine Run.bipush (v := nI 14) d_Rf_coast_61 bp_14 ?_
  first | refine Run.icmp_ge_n d_Rf_coast_63 (by omega) (by omega) (fun c63 => ?_) (fun c63 => ?_) | refine Run.icmp_ge d_Rf_coast_63 (fun c63 => ?_) (fun c63 => ?_)
  · refine Run.iconst (v := nI 0) d_Rf_coast_79 ic_0 ?_
    refine Run.istore_n d_Rf_coast_80 rfl rfl ?_
    show Run _ _ _ _ _ _ [_, _, _] _ _ _
    exact r_rcoast81 hV1 (fun j hj => he j (by omega)) hnp
  · refine Run.aload_n d_Rf_coast_66 rfl ?_
    refine Run.getf d_Rf_coast_67 fl_Rf_25 (by first | rfl | assumption) (by rfl) ?_
    refine Run.iload_n d_Rf_coast_70 rfl ?_
    refine Run.iconst (v := nI 0) d_Rf_coast_71 ic_0 ?_
    refine Run.iast_n d_Rf_coast_72 (by first | rfl | assumption) (by omega) (by omega) ?_
    first | refine Run.iinc_n d_Rf_coast_73 ic_1 rfl rfl ?_ | refine Run.iinc d_Rf_coast_73 rfl rfl rfl ?_
    show Run _ _ _ _ _ _ [_, _, _] _ _ _
    refine Run.goto d_Rf_coast_76 ?_
    refine ih c63 (upd pg i (nI 0)) (fun j hj => ?_)
    by_cases e : j = i
    · subst e; exact pk_us
    · rw [pk_un e]; exact he j (by omega)
theorem r_rcoast35 {nh np : Nat} {v2 : Option Value} (hnp : np ≤ 6) : Run X (d + 5) 0 0 M_Rf_coast 35 [some (.ref 44), some (.int (nI 0)), v2] [] (PX f0 ++ hMx (nI n) z2 (nI nh) (nI np) z5 (nI nh) (nI np) z8 z9 sd y1 y2 y3 y4 tx ho pi rh rp pg tr bk kp ik ta tp ga gr va rw) (fun r h2 => r = some (.int (nI (10 * nh + np))) ∧ ∃ ho2 pi2 pg2 : FI, RcV np z5 rh rp ho2 pi2 pg2 ∧ h2 = PX f0 ++ hMx (nI n) z2 (nI nh) (nI np) z5 (nI nh) (nI np) (nI 0) z9 sd y1 y2 y3 y4 tx ho2 pi2 rh rp pg2 tr bk kp (upd (upd ik 0 (nI 0)) 1 (nI 0)) ta tp ga gr va rw) := by
  refine upto 4 (fun i => ∀ ho : FI, (∀ j, j < i → ho j = rh j) → Run X (d + 5) 0 0 M_Rf_coast 35 [some (.ref 44), some (.int (nI i)), v2] [] (PX f0 ++ hMx (nI n) z2 (nI nh) (nI np) z5 (nI nh) (nI np) z8 z9 sd y1 y2 y3 y4 tx ho pi rh rp pg tr bk kp ik ta tp ga gr va rw) (fun r h2 => r = some (.int (nI (10 * nh + np))) ∧ ∃ ho2 pi2 pg2 : FI, RcV np z5 rh rp ho2 pi2 pg2 ∧ h2 = PX f0 ++ hMx (nI n) z2 (nI nh) (nI np) z5 (nI nh) (nI np) (nI 0) z9 sd y1 y2 y3 y4 tx ho2 pi2 rh rp pg2 tr bk kp (upd (upd ik 0 (nI 0)) 1 (nI 0)) ta tp ga gr va rw)) ?_ 0 (Nat.zero_le _) ho (fun j hj => by omega)
  intro i hi ih ho he
  refine Run.iload_n d_Rf_coast_35 rfl ?_
  refine Run.iconst (v := nI 4) d_Rf_coast_36 ic_4 ?_
  first | refine Run.icmp_ge_n d_Rf_coast_37 (by omega) (by omega) (fun c37 => ?_) (fun c37 => ?_) | refine Run.icmp_ge d_Rf_coast_37 (fun c37 => ?_) (fun c37 => ?_)
  · refine Run.iconst (v := nI 0) d_Rf_coast_58 ic_0 ?_
    refine Run.istore_n d_Rf_coast_59 rfl rfl ?_
    show Run _ _ _ _ _ _ [_, _, _] _ _ _
    exact r_rcoast60 (fun j hj => he j (by omega)) hnp
  · refine Run.aload_n d_Rf_coast_40 rfl ?_
    refine Run.getf d_Rf_coast_41 fl_Rf_13 (by first | rfl | assumption) (by rfl) ?_
    refine Run.iload_n d_Rf_coast_44 rfl ?_
    refine Run.aload_n d_Rf_coast_45 rfl ?_
    refine Run.getf d_Rf_coast_46 fl_Rf_19 (by first | rfl | assumption) (by rfl) ?_
    refine Run.iload_n d_Rf_coast_49 rfl ?_
    refine Run.iald_n d_Rf_coast_50 (by first | rfl | assumption) (by omega) (by omega) ?_
    refine Run.iast_n d_Rf_coast_51 (by first | rfl | assumption) (by omega) (by omega) ?_
    first | refine Run.iinc_n d_Rf_coast_52 ic_1 rfl rfl ?_ | refine Run.iinc d_Rf_coast_52 rfl rfl rfl ?_
    show Run _ _ _ _ _ _ [_, _, _] _ _ _
    refine Run.goto d_Rf_coast_55 ?_
    refine ih c37 (upd ho i (rh i)) (fun j hj => ?_)
    by_cases e : j = i
    · subst e; exact pk_us
    · rw [pk_un e]; exact he j (by omega)
theorem q_Rf_coast (hn : n ≤ 48) (hf : ∀ k, k < n → tx k = nI (bt k) ∧ bt k < 256) : Call X (d + 5) 0 0 M_Rf_coast [.ref 44] (PX f0 ++ hMx (nI n) z2 z3 z4 z5 z6 z7 z8 z9 sd y1 y2 y3 y4 tx ho pi rh rp pg tr bk kp ik ta tp ga gr va rw) (fun r h2 => (¬ fltR bt n = -9 ∧ r = some (.int (-3)) ∧ ∃ w2 w5 w6 w7 rh2 rp2, h2 = PX f0 ++ hMx (nI n) w2 z3 z4 w5 w6 w7 z8 z9 sd y1 y2 y3 y4 tx ho pi rh2 rp2 pg tr bk kp ik ta tp ga gr va rw) ∨ (∃ q w2 w5 rh2 rp2 ho2 pi2 pg2, psI bt n = some q ∧ q.1 = 2 ∧ r = some (.int (nI (ansC q))) ∧ RdR q w5 (nI (nhC (cCA q))) (nI (npC (cCA q))) rh2 rp2 ∧ RcV (npC (cCA q)) w5 rh2 rp2 ho2 pi2 pg2 ∧ h2 = PX f0 ++ hMx (nI n) w2 (nI (nhC (cCA q))) (nI (npC (cCA q))) w5 (nI (nhC (cCA q))) (nI (npC (cCA q))) (nI 0) z9 sd y1 y2 y3 y4 tx ho2 pi2 rh2 rp2 pg2 tr bk kp (upd (upd ik 0 (nI 0)) 1 (nI 0)) ta tp ga gr va rw)) := by
  show Run X (d + 5) 0 0 M_Rf_coast 0 [some (.ref 44), none, none] [] _ _
  refine Run.aload_n d_Rf_coast_0 rfl ?_
  refine Run.iconst (v := nI 0) d_Rf_coast_1 ic_0 ?_
  refine Run.putf d_Rf_coast_2 fl_Rf_59 (fun _ => rfl) (fun _ => rfl) (by first | rfl | assumption) (by exact Nat.le_of_ble_eq_true rfl) ?_
  refine run_hp (show _ = PX f0 ++ hMx (nI n) z2 z3 z4 z5 z6 z7 z8 z9 sd y1 y2 y3 y4 tx ho pi rh rp pg tr bk kp ik ta tp ga gr va rw from rfl) ?_
  refine Run.aload_n d_Rf_coast_5 rfl ?_
  refine Run.V0 d_Rf_coast_6 lk_Rf_104 cm_Rf_readCoast iv_Rf_readCoast rfl (by first | rfl | assumption) (Nat.le_of_ble_eq_true rfl) (Nat.le_of_ble_eq_true rfl) (q_Rf_readCoast hn hf) (fun r6 h6 q6 => ?_)
  obtain ⟨rfl, w2, w5, w6, w7, rh2, rp2, rfl, hcs⟩ := q6
  refine Run.bipush (v := -9) d_Rf_coast_9 bp_m9 ?_
  first | refine Run.icmp_eq_n d_Rf_coast_11 (by omega) (by omega) (fun c11 => ?_) (fun c11 => ?_) | refine Run.icmp_eq d_Rf_coast_11 (fun c11 => ?_) (fun c11 => ?_)
  · obtain ⟨q, hq, h2⟩ := flt_ok (by omega) c11
    have hr := hcs q hq h2
    have hnp := (cCA_ok (psI_ok hq)).2.1
    have e1 : w6 = nI (nhC (cCA q)) := by
      obtain ⟨du, li, hk, pt, an, kd, hd, nh, np⟩ := q
      exact hr.2.1
    have e2 : w7 = nI (npC (cCA q)) := by
      obtain ⟨du, li, hk, pt, an, kd, hd, nh, np⟩ := q
      exact hr.2.2.1
    subst e1
    subst e2
    refine Run.aload_n d_Rf_coast_17 rfl ?_
    refine Run.aload_n d_Rf_coast_18 rfl ?_
    refine Run.getf d_Rf_coast_19 fl_Rf_85 (by first | rfl | assumption) (by rfl) ?_
    refine Run.putf d_Rf_coast_22 fl_Rf_63 (fun _ => rfl) (fun _ => rfl) (by first | rfl | assumption) (by exact Nat.le_of_ble_eq_true rfl) ?_
    refine Run.aload_n d_Rf_coast_25 rfl ?_
    refine Run.aload_n d_Rf_coast_26 rfl ?_
    refine Run.getf d_Rf_coast_27 fl_Rf_88 (by first | rfl | assumption) (by rfl) ?_
    refine Run.putf d_Rf_coast_30 fl_Rf_70 (fun _ => rfl) (fun _ => rfl) (by first | rfl | assumption) (by exact Nat.le_of_ble_eq_true rfl) ?_
    refine Run.iconst (v := nI 0) d_Rf_coast_33 ic_0 ?_
    refine Run.istore_n d_Rf_coast_34 rfl rfl ?_
    show Run _ _ _ _ _ _ [_, _, _] _ _ _
    refine Run.weaken ?_ (run_hp (show _ = PX f0 ++ hMx (nI n) w2 (nI (nhC (cCA q))) (nI (npC (cCA q))) w5 (nI (nhC (cCA q))) (nI (npC (cCA q))) z8 z9 sd y1 y2 y3 y4 tx ho pi rh2 rp2 pg tr bk kp ik ta tp ga gr va rw from rfl) (r_rcoast35 hnp))
    rintro r2 h3 ⟨h4, ho2, pi2, pg2, h5, h6⟩
    exact Or.inr ⟨q, w2, w5, rh2, rp2, ho2, pi2, pg2, hq, h2, h4, hr, h5, h6⟩
  · refine Run.bipush (v := -3) d_Rf_coast_14 bp_m3 ?_
    refine Run.iret d_Rf_coast_16 rfl rfl ?_
    exact Or.inl ⟨c11, rfl, w2, w5, w6, w7, rh2, rp2, rfl⟩
theorem RcV.rf {q : PS} {w5 z6 z7 : Int32} {rh rp ho pi pg : FI} (hq : psOK q) (hr : RdR q w5 z6 z7 rh rp) (hv : RcV (npC (cCA q)) w5 rh rp ho pi pg) : RfR (cCA q) (nI (nhC (cCA q))) (nI (npC (cCA q))) ho pi := by
  obtain ⟨du, li, hk, pt, an, kd, hd, nh, np⟩ := q
  obtain ⟨a1, a2, a3, a4, a5, a6, a7, a8, a9, a10, a11⟩ := hq
  obtain ⟨r1, r2, r3, r4, r5, r6, r7, r8⟩ := hr
  obtain ⟨v1, v2, v3, v4, v5, v6⟩ := hv
  refine ⟨rfl, rfl, fun j hj => ?_, fun i hi => ?_⟩
  · have hj : j < nh := hj
    rw [v1 j (by omega)]
    exact r4 j hj
  · have hi : i < np := hi
    have w0 := v2 i hi 0 (by omega)
    have w1 := v2 i hi 1 (by omega)
    have w2 := v2 i hi 2 (by omega)
    rw [Nat.add_zero, Nat.add_zero] at w0
    rw [w0, w1, w2]
    exact ⟨(r5 i hi).1, (r5 i hi).2.1, (r5 i hi).2.2.1⟩
theorem RcV.pv {q : PS} {w5 z6 z7 : Int32} {rh rp ho pi pg : FI} (hq : psOK q) (h2 : q.1 = 2) (hr : RdR q w5 z6 z7 rh rp) (hv : RcV (npC (cCA q)) w5 rh rp ho pi pg) : PgV (cCA q) (cPG q) pg := by
  obtain ⟨du, li, hk, pt, an, kd, hd, nh, np⟩ := q
  obtain ⟨a1, a2, a3, a4, a5, a6, a7, a8, a9, a10, a11⟩ := hq
  obtain ⟨r1, r2, r3, r4, r5, r6, r7, r8⟩ := hr
  obtain ⟨v1, v2, v3, v4, v5, v6⟩ := hv
  have h2 : du = 2 := h2
  refine ⟨fun i hi => ?_, ?_, v6⟩
  · have hi : i < np := hi
    exact ⟨v3 i (by omega), by rw [v4 i hi]; exact (r5 i hi).2.2.2⟩
  · rw [v5]
    exact r1 (by omega)
end RCOAST
