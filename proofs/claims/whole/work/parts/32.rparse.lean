/-! ===== the text as a coast (the reference) ===== -/
def RdR (q : PS) (z5 z6 z7 : Int32) (rh rp : FI) : Prop := match q with
  | (du, li, hk, pt, an, kd, hd, nh, np) => (2 ≤ du → z5 = nI li) ∧ z6 = nI nh ∧ z7 = nI np ∧ (∀ j, j < nh → rh j = nI (hk j)) ∧ (∀ i, i < np → rp (4 * i) = nI (pt i) ∧ rp (4 * i + 1) = nI (an i) ∧ rp (4 * i + 2) = nI (kd i) ∧ rp (4 * i + 3) = nI (hd i)) ∧ (5 ≤ du → rp (4 * np) = nI (pt np)) ∧ (6 ≤ du → rp (4 * np + 1) = nI (an np)) ∧ (7 ≤ du → rp (4 * np + 2) = nI (kd np))
theorem psI_up {bt : Nat → Nat} {k : Nat} (h : psI bt k = none) : ∀ n, k ≤ n → psI bt n = none := by
  intro n hn
  induction n with
  | zero => rw [show k = 0 by omega] at h; exact h
  | succ n ih =>
    by_cases e : k = n + 1
    · rw [← e]; exact h
    · cases h2 : psI bt (n + 1) with
      | none => rfl
      | some q5 =>
        obtain ⟨q6, h6⟩ := psI_p h2
        rw [ih (by omega)] at h6
        cases h6
/-- the reading ends at k, not as a coast -/
def FlA (bt : Nat → Nat) (n k : Nat) : Prop := fltR bt n = nI k ∧ ∀ q, psI bt n = some q → ¬ q.1 = 2
theorem fail_at {bt : Nat → Nat} {q : PS} {k n : Nat} (h : psI bt k = some q) (h2 : ¬ q.1 = 2) (hk : k ≤ n) (hb : k < n → psS q (bt k) = none) : FlA bt n k := by
  by_cases e : k = n
  · subst e
    exact ⟨by rw [flt_end h, if_neg h2], fun q2 hq2 => by rw [h] at hq2; cases hq2; exact h2⟩
  · have hlt : k < n := by omega
    refine ⟨flt_bad h (hb hlt) hlt, fun q2 hq2 => ?_⟩
    rw [psI_up (k := k + 1) (by rw [psI_s h]; exact hb hlt) n (by omega)] at hq2
    cases hq2
theorem bad_at {bt : Nat → Nat} {q : PS} {k n : Nat} (h : psI bt k = some q) (hk : k < n) (hb : psS q (bt k) = none) : FlA bt n k := by
  refine ⟨flt_bad h hb hk, fun q2 hq2 => ?_⟩
  rw [psI_up (k := k + 1) (by rw [psI_s h]; exact hb) n (by omega)] at hq2
  cases hq2
section RPARSE
variable {X : Nat × (Nat → Int32)} {d : Nat} {f0 : Nat → AC} {tx ho pi rh rp pg tr bk kp ik ta tp ga gr va rw : FI} {z1 z2 z3 z4 z5 z6 z7 z8 z9 y1 y2 y3 y4 : Int32} {sd : Int64} {n : Nat} {bt : Nat → Nat}
theorem q_Rf_fig1 {pl most : Nat} (hn : n ≤ 48) (hf : ∀ k, k < n → tx k = nI (bt k) ∧ bt k < 256) (hpl : pl < n) (hm : most ≤ 50) (hv : 48 ≤ bt pl ∧ bt pl < 48 + (most + 1)) : Call X (d + 1) 0 0 M_Rf_figure [.ref 44, .int (nI most)] (PX f0 ++ hMx (nI n) (nI pl) z3 z4 z5 z6 z7 z8 z9 sd y1 y2 y3 y4 tx ho pi rh rp pg tr bk kp ik ta tp ga gr va rw) (Ret (.int (nI (bt pl - 48))) (PX f0 ++ hMx (nI n) (nI (pl + 1)) z3 z4 z5 z6 z7 z8 z9 sd y1 y2 y3 y4 tx ho pi rh rp pg tr bk kp ik ta tp ga gr va rw)) := by
  show Run X (d + 1) 0 0 M_Rf_figure 0 [some (.ref 44), some (.int (nI most))] [] _ _
  have hb := (hf pl hpl).2
  refine Run.aload_n d_Rf_figure_0 rfl ?_
  refine Run.getf d_Rf_figure_1 fl_Rf_78 (by first | rfl | assumption) (by rfl) ?_
  refine Run.aload_n d_Rf_figure_4 rfl ?_
  refine Run.getf d_Rf_figure_5 fl_Rf_75 (by first | rfl | assumption) (by rfl) ?_
  first | refine Run.icmp_eq_n d_Rf_figure_8 (by omega) (by omega) (fun c8 => ?_) (fun c8 => ?_) | refine Run.icmp_eq d_Rf_figure_8 (fun c8 => ?_) (fun c8 => ?_)
  · omega
  · refine Run.aload_n d_Rf_figure_11 rfl ?_
    refine Run.getf d_Rf_figure_12 fl_Rf_7 (by first | rfl | assumption) (by rfl) ?_
    refine Run.aload_n d_Rf_figure_15 rfl ?_
    refine Run.getf d_Rf_figure_16 fl_Rf_78 (by first | rfl | assumption) (by rfl) ?_
    refine Run.iald_n d_Rf_figure_19 (by first | rfl | assumption) (by omega) (by omega) ?_
    rw [(hf pl hpl).1]
    refine Run.bipush (v := nI 48) d_Rf_figure_20 bp_48 ?_
    refine Run.isub d_Rf_figure_22 ?_
    refine Run.i2l d_Rf_figure_23 ?_
    refine Run.lconst (v := 0) d_Rf_figure_24 rfl ?_
    refine Run.iload_n d_Rf_figure_25 rfl ?_
    refine Run.i2l d_Rf_figure_26 ?_
    refine Run.S3r d_Rf_figure_27 lk_Rf_66 cm_Rf_in st_Rf_in (Nat.le_of_ble_eq_true rfl) (Nat.le_of_ble_eq_true rfl) (c_Rf_in) ?_
    rw [in_B (n := most + 1) (by omega) (by rw [Int32.toInt_toInt64, nI_toInt (by omega)]; omega), fg_in hb (by omega)]
    first | refine Run.if_ne_b d_Rf_figure_30 (fun c30 => ?_) (fun c30 => ?_) | refine Run.if_ne_n d_Rf_figure_30 (by omega) (fun c30 => ?_) (fun c30 => ?_) | refine Run.if_ne d_Rf_figure_30 (fun c30 => ?_) (fun c30 => ?_)
    · refine Run.aload_n d_Rf_figure_36 rfl ?_
      refine Run.dup d_Rf_figure_37 rfl ?_
      refine Run.getf d_Rf_figure_38 fl_Rf_78 (by first | rfl | assumption) (by rfl) ?_
      refine Run.iconst (v := nI 1) d_Rf_figure_41 ic_1 ?_
      first | refine Run.iadd_n d_Rf_figure_42 ?_ | refine Run.iadd d_Rf_figure_42 ?_
      refine Run.putf d_Rf_figure_43 fl_Rf_78 (fun _ => rfl) (fun _ => rfl) (by first | rfl | assumption) (by exact Nat.le_of_ble_eq_true rfl) ?_
      refine Run.aload_n d_Rf_figure_46 rfl ?_
      refine Run.getf d_Rf_figure_47 fl_Rf_7 (by first | rfl | assumption) (by rfl) ?_
      refine Run.aload_n d_Rf_figure_50 rfl ?_
      refine Run.getf d_Rf_figure_51 fl_Rf_78 (by first | rfl | assumption) (by rfl) ?_
      refine Run.iconst (v := nI 1) d_Rf_figure_54 ic_1 ?_
      first | refine Run.isub_n d_Rf_figure_55 (by omega) ?_ | refine Run.isub d_Rf_figure_55 ?_
      rw [Nat.add_sub_cancel]
      refine Run.iald_n d_Rf_figure_56 (by first | rfl | assumption) (by omega) (by omega) ?_
      rw [(hf pl hpl).1]
      refine Run.bipush (v := nI 48) d_Rf_figure_57 bp_48 ?_
      first | refine Run.isub_n d_Rf_figure_59 (by omega) ?_ | refine Run.isub d_Rf_figure_59 ?_
      refine Run.iret d_Rf_figure_60 rfl rfl ?_
      exact ⟨rfl, rfl⟩
    · exact absurd hv (of_decide_eq_false c30)
theorem q_Rf_fig0 {pl most : Nat} (hn : n ≤ 48) (hf : ∀ k, k < n → tx k = nI (bt k) ∧ bt k < 256) (hpl : pl ≤ n) (hm : most ≤ 50) (hv : pl < n → ¬ (48 ≤ bt pl ∧ bt pl < 48 + (most + 1))) : Call X (d + 1) 0 0 M_Rf_figure [.ref 44, .int (nI most)] (PX f0 ++ hMx (nI n) (nI pl) z3 z4 z5 z6 z7 z8 z9 sd y1 y2 y3 y4 tx ho pi rh rp pg tr bk kp ik ta tp ga gr va rw) (Ret (.int (-9)) (PX f0 ++ hMx (nI n) (nI pl) z3 z4 z5 z6 z7 z8 z9 sd y1 y2 y3 y4 tx ho pi rh rp pg tr bk kp ik ta tp ga gr va rw)) := by
  show Run X (d + 1) 0 0 M_Rf_figure 0 [some (.ref 44), some (.int (nI most))] [] _ _
  refine Run.aload_n d_Rf_figure_0 rfl ?_
  refine Run.getf d_Rf_figure_1 fl_Rf_78 (by first | rfl | assumption) (by rfl) ?_
  refine Run.aload_n d_Rf_figure_4 rfl ?_
  refine Run.getf d_Rf_figure_5 fl_Rf_75 (by first | rfl | assumption) (by rfl) ?_
  first | refine Run.icmp_eq_n d_Rf_figure_8 (by omega) (by omega) (fun c8 => ?_) (fun c8 => ?_) | refine Run.icmp_eq d_Rf_figure_8 (fun c8 => ?_) (fun c8 => ?_)
  · refine Run.bipush (v := -9) d_Rf_figure_33 bp_m9 ?_
    refine Run.iret d_Rf_figure_35 rfl rfl ?_
    exact ⟨rfl, rfl⟩
  · have hlt : pl < n := by omega
    have hb := (hf pl hlt).2
    refine Run.aload_n d_Rf_figure_11 rfl ?_
    refine Run.getf d_Rf_figure_12 fl_Rf_7 (by first | rfl | assumption) (by rfl) ?_
    refine Run.aload_n d_Rf_figure_15 rfl ?_
    refine Run.getf d_Rf_figure_16 fl_Rf_78 (by first | rfl | assumption) (by rfl) ?_
    refine Run.iald_n d_Rf_figure_19 (by first | rfl | assumption) (by omega) (by omega) ?_
    rw [(hf pl hlt).1]
    refine Run.bipush (v := nI 48) d_Rf_figure_20 bp_48 ?_
    refine Run.isub d_Rf_figure_22 ?_
    refine Run.i2l d_Rf_figure_23 ?_
    refine Run.lconst (v := 0) d_Rf_figure_24 rfl ?_
    refine Run.iload_n d_Rf_figure_25 rfl ?_
    refine Run.i2l d_Rf_figure_26 ?_
    refine Run.S3r d_Rf_figure_27 lk_Rf_66 cm_Rf_in st_Rf_in (Nat.le_of_ble_eq_true rfl) (Nat.le_of_ble_eq_true rfl) (c_Rf_in) ?_
    rw [in_B (n := most + 1) (by omega) (by rw [Int32.toInt_toInt64, nI_toInt (by omega)]; omega), fg_in hb (by omega)]
    first | refine Run.if_ne_b d_Rf_figure_30 (fun c30 => ?_) (fun c30 => ?_) | refine Run.if_ne_n d_Rf_figure_30 (by omega) (fun c30 => ?_) (fun c30 => ?_) | refine Run.if_ne d_Rf_figure_30 (fun c30 => ?_) (fun c30 => ?_)
    · exact absurd (of_decide_eq_true c30) (hv hlt)
    · refine Run.bipush (v := -9) d_Rf_figure_33 bp_m9 ?_
      refine Run.iret d_Rf_figure_35 rfl rfl ?_
      exact ⟨rfl, rfl⟩
theorem q_Rf_oneHolder {pl li nh np : Nat} {hk pt an kd hd : Nat → Nat} (hn : n ≤ 48) (hf : ∀ k, k < n → tx k = nI (bt k) ∧ bt k < 256) (hpl : pl ≤ n) (hq : psI bt pl = some (3, li, hk, pt, an, kd, hd, nh, np)) (hr : RdR (3, li, hk, pt, an, kd, hd, nh, np) z5 z6 z7 rh rp) : Call X (d + 2) 0 0 M_Rf_readOneHolder [.ref 44] (PX f0 ++ hMx (nI n) (nI pl) z3 z4 z5 z6 z7 z8 z9 sd y1 y2 y3 y4 tx ho pi rh rp pg tr bk kp ik ta tp ga gr va rw) (fun r h2 => (∃ pl2 q2 w5 w6 w7 rh2 rp2, psI bt pl2 = some q2 ∧ q2.1 = 2 ∧ pl2 ≤ n ∧ pl < pl2 ∧ RdR q2 w5 w6 w7 rh2 rp2 ∧ r = some (.int (bI true)) ∧ h2 = PX f0 ++ hMx (nI n) (nI pl2) z3 z4 w5 w6 w7 z8 z9 sd y1 y2 y3 y4 tx ho pi rh2 rp2 pg tr bk kp ik ta tp ga gr va rw) ∨ (∃ pl2 w5 w6 w7 rh2 rp2, FlA bt n pl2 ∧ r = some (.int (bI false)) ∧ h2 = PX f0 ++ hMx (nI n) (nI pl2) z3 z4 w5 w6 w7 z8 z9 sd y1 y2 y3 y4 tx ho pi rh2 rp2 pg tr bk kp ik ta tp ga gr va rw)) := by
  show Run X (d + 2) 0 0 M_Rf_readOneHolder 0 [some (.ref 44), none] [] _ _
  obtain ⟨a1, a2, a3, a4, a5, a6, a7, a8, a9, a10, a11⟩ := psI_ok hq
  have hnh := a5 rfl
  obtain ⟨r1, r2, r3, r4, r5, r6, r7, r8⟩ := hr
  subst r2
  subst r3
  have e0 : psS (3, li, hk, pt, an, kd, hd, nh, np) (bt pl) = if 48 ≤ bt pl ∧ bt pl < 48 + 4 then some (2, li, updN hk nh (bt pl - 48), pt, an, kd, hd, nh + 1, np) else none := rfl
  by_cases hv : pl < n ∧ 48 ≤ bt pl ∧ bt pl < 48 + 4
  · have hb := (hf pl hv.1).2
    refine Run.aload_n d_Rf_readOneHolder_0 rfl ?_
    refine Run.iconst (v := nI 3) d_Rf_readOneHolder_1 ic_3 ?_
    refine Run.V1r d_Rf_readOneHolder_2 lk_Rf_81 cm_Rf_figure iv_Rf_figure rfl (by first | rfl | assumption) (Nat.le_of_ble_eq_true rfl) (Nat.le_of_ble_eq_true rfl) (q_Rf_fig1 hn hf hv.1 (by omega) hv.2) ?_
    refine Run.istore_n d_Rf_readOneHolder_5 rfl rfl ?_
    show Run _ _ _ _ _ _ [_, _] _ _ _
    refine Run.iload_n d_Rf_readOneHolder_6 rfl ?_
    refine Run.bipush (v := -9) d_Rf_readOneHolder_7 bp_m9 ?_
    first | refine Run.icmp_ne_n d_Rf_readOneHolder_9 (by omega) (by omega) (fun c9 => ?_) (fun c9 => ?_) | refine Run.icmp_ne d_Rf_readOneHolder_9 (fun c9 => ?_) (fun c9 => ?_)
    · refine Run.aload_n d_Rf_readOneHolder_14 rfl ?_
      refine Run.getf d_Rf_readOneHolder_15 fl_Rf_19 (by first | rfl | assumption) (by rfl) ?_
      refine Run.aload_n d_Rf_readOneHolder_18 rfl ?_
      refine Run.getf d_Rf_readOneHolder_19 fl_Rf_85 (by first | rfl | assumption) (by rfl) ?_
      refine Run.iload_n d_Rf_readOneHolder_22 rfl ?_
      refine Run.iast_n d_Rf_readOneHolder_23 (by first | rfl | assumption) (by omega) (by omega) ?_
      refine Run.aload_n d_Rf_readOneHolder_24 rfl ?_
      refine Run.dup d_Rf_readOneHolder_25 rfl ?_
      refine Run.getf d_Rf_readOneHolder_26 fl_Rf_85 (by first | rfl | assumption) (by rfl) ?_
      refine Run.iconst (v := nI 1) d_Rf_readOneHolder_29 ic_1 ?_
      first | refine Run.iadd_n d_Rf_readOneHolder_30 ?_ | refine Run.iadd d_Rf_readOneHolder_30 ?_
      refine Run.putf d_Rf_readOneHolder_31 fl_Rf_85 (fun _ => rfl) (fun _ => rfl) (by first | rfl | assumption) (by exact Nat.le_of_ble_eq_true rfl) ?_
      refine Run.iconst (v := nI 1) d_Rf_readOneHolder_34 ic_1 ?_
      refine Run.iret d_Rf_readOneHolder_35 rfl (by first | exact bI_nar _ | decide +kernel) ?_
      refine Or.inl ⟨pl + 1, (2, li, updN hk nh (bt pl - 48), pt, an, kd, hd, nh + 1, np), z5, nI (nh + 1), nI np, upd rh nh (nI (bt pl - 48)), rp, ?_, rfl, by omega, by omega, ⟨fun z => r1 (by omega), rfl, rfl, upR r4, r5, fun z => by omega, fun z => by omega, fun z => by omega⟩, rfl, rfl⟩
      rw [psI_s hq, e0, if_pos hv.2]
    · exact absurd c9 (nI_n9 (by omega))
  · have hfl : FlA bt n pl := fail_at hq (by show ¬ 3 = 2; omega) hpl (fun z => by rw [e0, if_neg (fun w => hv ⟨z, w⟩)])
    refine Run.aload_n d_Rf_readOneHolder_0 rfl ?_
    refine Run.iconst (v := nI 3) d_Rf_readOneHolder_1 ic_3 ?_
    refine Run.V1r d_Rf_readOneHolder_2 lk_Rf_81 cm_Rf_figure iv_Rf_figure rfl (by first | rfl | assumption) (Nat.le_of_ble_eq_true rfl) (Nat.le_of_ble_eq_true rfl) (q_Rf_fig0 hn hf hpl (by omega) (fun z w => hv ⟨z, w⟩)) ?_
    refine Run.istore_n d_Rf_readOneHolder_5 rfl rfl ?_
    show Run _ _ _ _ _ _ [_, _] _ _ _
    refine Run.iload_n d_Rf_readOneHolder_6 rfl ?_
    refine Run.bipush (v := -9) d_Rf_readOneHolder_7 bp_m9 ?_
    first | refine Run.icmp_ne_n d_Rf_readOneHolder_9 (by omega) (by omega) (fun c9 => ?_) (fun c9 => ?_) | refine Run.icmp_ne d_Rf_readOneHolder_9 (fun c9 => ?_) (fun c9 => ?_)
    · exact absurd rfl c9
    · refine Run.iconst (v := nI 0) d_Rf_readOneHolder_12 ic_0 ?_
      refine Run.iret d_Rf_readOneHolder_13 rfl (by first | exact bI_nar _ | decide +kernel) ?_
      exact Or.inr ⟨pl, z5, nI nh, nI np, rh, rp, hfl, rfl, rfl⟩
theorem r_piece1 {k most pl nh np : Nat} {v2 v3 : Option Value} {Q : Option Value → AH → Prop} (hn : n ≤ 48) (hf : ∀ k, k < n → tx k = nI (bt k) ∧ bt k < 256) (hk : k < 4) (hnh : 0 < nh) (hnh4 : nh ≤ 4) (hnp : np < 6) (hm : (k = 0 → most = 4) ∧ (k = 1 → most = 7) ∧ (k = 2 → most = 3) ∧ (k = 3 → most + 1 = nh)) (hpl : pl < n) (hv : 48 ≤ bt pl ∧ bt pl < 48 + (most + 1))
    (kk : ∀ v2 v3, Run X (d + 2) 0 0 M_Rf_readOnePiece 2 [some (.ref 44), some (.int (nI (k + 1))), v2, v3] [] (PX f0 ++ hMx (nI n) (nI (pl + 1)) z3 z4 z5 (nI nh) (nI np) z8 z9 sd y1 y2 y3 y4 tx ho pi rh (upd rp (4 * np + k) (nI (bt pl - 48))) pg tr bk kp ik ta tp ga gr va rw) Q) : Run X (d + 2) 0 0 M_Rf_readOnePiece 2 [some (.ref 44), some (.int (nI k)), v2, v3] [] (PX f0 ++ hMx (nI n) (nI pl) z3 z4 z5 (nI nh) (nI np) z8 z9 sd y1 y2 y3 y4 tx ho pi rh rp pg tr bk kp ik ta tp ga gr va rw) Q := by
  have hb := (hf pl hpl).2
  have h40 : ∀ m, m = most → Run X (d + 2) 0 0 M_Rf_readOnePiece 40 [some (.ref 44), some (.int (nI k)), v2, v3] [.int (nI m)] (PX f0 ++ hMx (nI n) (nI pl) z3 z4 z5 (nI nh) (nI np) z8 z9 sd y1 y2 y3 y4 tx ho pi rh rp pg tr bk kp ik ta tp ga gr va rw) Q := by
    intro m hmm
    subst hmm
    refine Run.istore_n d_Rf_readOnePiece_40 rfl rfl ?_
    show Run _ _ _ _ _ _ [_, _, _, _] _ _ _
    refine Run.aload_n d_Rf_readOnePiece_41 rfl ?_
    refine Run.iload_n d_Rf_readOnePiece_42 rfl ?_
    refine Run.V1r d_Rf_readOnePiece_43 lk_Rf_81 cm_Rf_figure iv_Rf_figure rfl (by first | rfl | assumption) (Nat.le_of_ble_eq_true rfl) (Nat.le_of_ble_eq_true rfl) (q_Rf_fig1 hn hf hpl (by omega) hv) ?_
    refine Run.istore_n d_Rf_readOnePiece_46 rfl rfl ?_
    show Run _ _ _ _ _ _ [_, _, _, _] _ _ _
    refine Run.iload_n d_Rf_readOnePiece_47 rfl ?_
    refine Run.bipush (v := -9) d_Rf_readOnePiece_48 bp_m9 ?_
    first | refine Run.icmp_ne_n d_Rf_readOnePiece_50 (by omega) (by omega) (fun c50 => ?_) (fun c50 => ?_) | refine Run.icmp_ne d_Rf_readOnePiece_50 (fun c50 => ?_) (fun c50 => ?_)
    · refine Run.aload_n d_Rf_readOnePiece_55 rfl ?_
      refine Run.getf d_Rf_readOnePiece_56 fl_Rf_22 (by first | rfl | assumption) (by rfl) ?_
      refine Run.iconst (v := nI 4) d_Rf_readOnePiece_59 ic_4 ?_
      refine Run.aload_n d_Rf_readOnePiece_60 rfl ?_
      refine Run.getf d_Rf_readOnePiece_61 fl_Rf_88 (by first | rfl | assumption) (by rfl) ?_
      first | refine Run.imul_n d_Rf_readOnePiece_64 ?_ | refine Run.imul d_Rf_readOnePiece_64 ?_
      refine Run.iload_n d_Rf_readOnePiece_65 rfl ?_
      first | refine Run.iadd_n d_Rf_readOnePiece_66 ?_ | refine Run.iadd d_Rf_readOnePiece_66 ?_
      refine Run.iload_n d_Rf_readOnePiece_67 rfl ?_
      refine Run.iast_n d_Rf_readOnePiece_68 (by first | rfl | assumption) (by omega) (by omega) ?_
      first | refine Run.iinc_n d_Rf_readOnePiece_69 ic_1 rfl rfl ?_ | refine Run.iinc d_Rf_readOnePiece_69 rfl rfl rfl ?_
      show Run _ _ _ _ _ _ [_, _, _, _] _ _ _
      refine Run.goto d_Rf_readOnePiece_72 ?_
      exact kk _ _
    · exact absurd c50 (nI_n9 (by omega))
  refine Run.iload_n d_Rf_readOnePiece_2 rfl ?_
  refine Run.iconst (v := nI 4) d_Rf_readOnePiece_3 ic_4 ?_
  first | refine Run.icmp_ge_n d_Rf_readOnePiece_4 (by omega) (by omega) (fun c4 => ?_) (fun c4 => ?_) | refine Run.icmp_ge d_Rf_readOnePiece_4 (fun c4 => ?_) (fun c4 => ?_)
  · omega
  · refine Run.iload_n d_Rf_readOnePiece_7 rfl ?_
    first | refine Run.if_ne_b d_Rf_readOnePiece_8 (fun c8 => ?_) (fun c8 => ?_) | refine Run.if_ne_n d_Rf_readOnePiece_8 (by omega) (fun c8 => ?_) (fun c8 => ?_) | refine Run.if_ne d_Rf_readOnePiece_8 (fun c8 => ?_) (fun c8 => ?_)
    · refine Run.iload_n d_Rf_readOnePiece_15 rfl ?_
      refine Run.iconst (v := nI 1) d_Rf_readOnePiece_16 ic_1 ?_
      first | refine Run.icmp_ne_n d_Rf_readOnePiece_17 (by omega) (by omega) (fun c17 => ?_) (fun c17 => ?_) | refine Run.icmp_ne d_Rf_readOnePiece_17 (fun c17 => ?_) (fun c17 => ?_)
      · refine Run.iload_n d_Rf_readOnePiece_25 rfl ?_
        refine Run.iconst (v := nI 2) d_Rf_readOnePiece_26 ic_2 ?_
        first | refine Run.icmp_ne_n d_Rf_readOnePiece_27 (by omega) (by omega) (fun c27 => ?_) (fun c27 => ?_) | refine Run.icmp_ne d_Rf_readOnePiece_27 (fun c27 => ?_) (fun c27 => ?_)
        · refine Run.aload_n d_Rf_readOnePiece_34 rfl ?_
          refine Run.getf d_Rf_readOnePiece_35 fl_Rf_85 (by first | rfl | assumption) (by rfl) ?_
          refine Run.iconst (v := nI 1) d_Rf_readOnePiece_38 ic_1 ?_
          first | refine Run.isub_n d_Rf_readOnePiece_39 (by omega) ?_ | refine Run.isub d_Rf_readOnePiece_39 ?_
          exact h40 _ (by omega)
        · refine Run.iconst (v := nI 3) d_Rf_readOnePiece_30 ic_3 ?_
          refine Run.goto d_Rf_readOnePiece_31 ?_
          exact h40 _ (by omega)
      · refine Run.bipush (v := nI 7) d_Rf_readOnePiece_20 bp_7 ?_
        refine Run.goto d_Rf_readOnePiece_22 ?_
        exact h40 _ (by omega)
    · refine Run.iconst (v := nI 4) d_Rf_readOnePiece_11 ic_4 ?_
      refine Run.goto d_Rf_readOnePiece_12 ?_
      exact h40 _ (by omega)
theorem r_piece0 {k most pl nh np : Nat} {v2 v3 : Option Value} {Q : Option Value → AH → Prop} (hn : n ≤ 48) (hf : ∀ k, k < n → tx k = nI (bt k) ∧ bt k < 256) (hk : k < 4) (hnh : 0 < nh) (hnh4 : nh ≤ 4) (hnp : np < 6) (hm : (k = 0 → most = 4) ∧ (k = 1 → most = 7) ∧ (k = 2 → most = 3) ∧ (k = 3 → most + 1 = nh)) (hpl : pl ≤ n) (hv : pl < n → ¬ (48 ≤ bt pl ∧ bt pl < 48 + (most + 1)))
    (kk : Q (some (.int (bI false))) (PX f0 ++ hMx (nI n) (nI pl) z3 z4 z5 (nI nh) (nI np) z8 z9 sd y1 y2 y3 y4 tx ho pi rh rp pg tr bk kp ik ta tp ga gr va rw)) : Run X (d + 2) 0 0 M_Rf_readOnePiece 2 [some (.ref 44), some (.int (nI k)), v2, v3] [] (PX f0 ++ hMx (nI n) (nI pl) z3 z4 z5 (nI nh) (nI np) z8 z9 sd y1 y2 y3 y4 tx ho pi rh rp pg tr bk kp ik ta tp ga gr va rw) Q := by
  have h40 : ∀ m, m = most → Run X (d + 2) 0 0 M_Rf_readOnePiece 40 [some (.ref 44), some (.int (nI k)), v2, v3] [.int (nI m)] (PX f0 ++ hMx (nI n) (nI pl) z3 z4 z5 (nI nh) (nI np) z8 z9 sd y1 y2 y3 y4 tx ho pi rh rp pg tr bk kp ik ta tp ga gr va rw) Q := by
    intro m hmm
    subst hmm
    refine Run.istore_n d_Rf_readOnePiece_40 rfl rfl ?_
    show Run _ _ _ _ _ _ [_, _, _, _] _ _ _
    refine Run.aload_n d_Rf_readOnePiece_41 rfl ?_
    refine Run.iload_n d_Rf_readOnePiece_42 rfl ?_
    refine Run.V1r d_Rf_readOnePiece_43 lk_Rf_81 cm_Rf_figure iv_Rf_figure rfl (by first | rfl | assumption) (Nat.le_of_ble_eq_true rfl) (Nat.le_of_ble_eq_true rfl) (q_Rf_fig0 hn hf hpl (by omega) hv) ?_
    refine Run.istore_n d_Rf_readOnePiece_46 rfl rfl ?_
    show Run _ _ _ _ _ _ [_, _, _, _] _ _ _
    refine Run.iload_n d_Rf_readOnePiece_47 rfl ?_
    refine Run.bipush (v := -9) d_Rf_readOnePiece_48 bp_m9 ?_
    first | refine Run.icmp_ne_n d_Rf_readOnePiece_50 (by omega) (by omega) (fun c50 => ?_) (fun c50 => ?_) | refine Run.icmp_ne d_Rf_readOnePiece_50 (fun c50 => ?_) (fun c50 => ?_)
    · exact absurd rfl c50
    · refine Run.iconst (v := nI 0) d_Rf_readOnePiece_53 ic_0 ?_
      refine Run.iret d_Rf_readOnePiece_54 rfl (by first | exact bI_nar _ | decide +kernel) ?_
      exact kk
  refine Run.iload_n d_Rf_readOnePiece_2 rfl ?_
  refine Run.iconst (v := nI 4) d_Rf_readOnePiece_3 ic_4 ?_
  first | refine Run.icmp_ge_n d_Rf_readOnePiece_4 (by omega) (by omega) (fun c4 => ?_) (fun c4 => ?_) | refine Run.icmp_ge d_Rf_readOnePiece_4 (fun c4 => ?_) (fun c4 => ?_)
  · omega
  · refine Run.iload_n d_Rf_readOnePiece_7 rfl ?_
    first | refine Run.if_ne_b d_Rf_readOnePiece_8 (fun c8 => ?_) (fun c8 => ?_) | refine Run.if_ne_n d_Rf_readOnePiece_8 (by omega) (fun c8 => ?_) (fun c8 => ?_) | refine Run.if_ne d_Rf_readOnePiece_8 (fun c8 => ?_) (fun c8 => ?_)
    · refine Run.iload_n d_Rf_readOnePiece_15 rfl ?_
      refine Run.iconst (v := nI 1) d_Rf_readOnePiece_16 ic_1 ?_
      first | refine Run.icmp_ne_n d_Rf_readOnePiece_17 (by omega) (by omega) (fun c17 => ?_) (fun c17 => ?_) | refine Run.icmp_ne d_Rf_readOnePiece_17 (fun c17 => ?_) (fun c17 => ?_)
      · refine Run.iload_n d_Rf_readOnePiece_25 rfl ?_
        refine Run.iconst (v := nI 2) d_Rf_readOnePiece_26 ic_2 ?_
        first | refine Run.icmp_ne_n d_Rf_readOnePiece_27 (by omega) (by omega) (fun c27 => ?_) (fun c27 => ?_) | refine Run.icmp_ne d_Rf_readOnePiece_27 (fun c27 => ?_) (fun c27 => ?_)
        · refine Run.aload_n d_Rf_readOnePiece_34 rfl ?_
          refine Run.getf d_Rf_readOnePiece_35 fl_Rf_85 (by first | rfl | assumption) (by rfl) ?_
          refine Run.iconst (v := nI 1) d_Rf_readOnePiece_38 ic_1 ?_
          first | refine Run.isub_n d_Rf_readOnePiece_39 (by omega) ?_ | refine Run.isub d_Rf_readOnePiece_39 ?_
          exact h40 _ (by omega)
        · refine Run.iconst (v := nI 3) d_Rf_readOnePiece_30 ic_3 ?_
          refine Run.goto d_Rf_readOnePiece_31 ?_
          exact h40 _ (by omega)
      · refine Run.bipush (v := nI 7) d_Rf_readOnePiece_20 bp_7 ?_
        refine Run.goto d_Rf_readOnePiece_22 ?_
        exact h40 _ (by omega)
    · refine Run.iconst (v := nI 4) d_Rf_readOnePiece_11 ic_4 ?_
      refine Run.goto d_Rf_readOnePiece_12 ?_
      exact h40 _ (by omega)
theorem q_Rf_onePiece {pl li nh np : Nat} {hk pt an kd hd : Nat → Nat} (hn : n ≤ 48) (hf : ∀ k, k < n → tx k = nI (bt k) ∧ bt k < 256) (hpl : pl ≤ n) (hq : psI bt pl = some (4, li, hk, pt, an, kd, hd, nh, np)) (hr : RdR (4, li, hk, pt, an, kd, hd, nh, np) z5 z6 z7 rh rp) : Call X (d + 2) 0 0 M_Rf_readOnePiece [.ref 44] (PX f0 ++ hMx (nI n) (nI pl) z3 z4 z5 z6 z7 z8 z9 sd y1 y2 y3 y4 tx ho pi rh rp pg tr bk kp ik ta tp ga gr va rw) (fun r h2 => (∃ pl2 q2 w5 w6 w7 rh2 rp2, psI bt pl2 = some q2 ∧ q2.1 = 2 ∧ pl2 ≤ n ∧ pl < pl2 ∧ RdR q2 w5 w6 w7 rh2 rp2 ∧ r = some (.int (bI true)) ∧ h2 = PX f0 ++ hMx (nI n) (nI pl2) z3 z4 w5 w6 w7 z8 z9 sd y1 y2 y3 y4 tx ho pi rh2 rp2 pg tr bk kp ik ta tp ga gr va rw) ∨ (∃ pl2 w5 w6 w7 rh2 rp2, FlA bt n pl2 ∧ r = some (.int (bI false)) ∧ h2 = PX f0 ++ hMx (nI n) (nI pl2) z3 z4 w5 w6 w7 z8 z9 sd y1 y2 y3 y4 tx ho pi rh2 rp2 pg tr bk kp ik ta tp ga gr va rw)) := by
  show Run X (d + 2) 0 0 M_Rf_readOnePiece 0 [some (.ref 44), none, none, none] [] _ _
  obtain ⟨a1, a2, a3, a4, a5, a6, a7, a8, a9, a10, a11⟩ := psI_ok hq
  have hnh := (a6 (by omega)).2
  have hnp := (a6 (by omega)).1
  obtain ⟨r1, r2, r3, r4, r5, r6, r7, r8⟩ := hr
  subst r2
  subst r3
  have r1 := r1 (by omega)
  refine Run.iconst (v := nI 0) d_Rf_readOnePiece_0 ic_0 ?_
  refine Run.istore_n d_Rf_readOnePiece_1 rfl rfl ?_
  show Run _ _ _ _ _ _ [_, _, _, _] _ _ _
  have e0 : psS (4, li, hk, pt, an, kd, hd, nh, np) (bt pl) = if 48 ≤ bt pl ∧ bt pl < 48 + 5 then some (5, li, hk, updN pt np (bt pl - 48), an, kd, hd, nh, np) else none := rfl
  by_cases hv0 : pl < n ∧ 48 ≤ bt pl ∧ bt pl < 48 + 5
  rotate_left
  · exact r_piece0 (k := 0) (most := 4) hn hf (by omega) hnh a2 hnp (by omega) (by omega) (fun z w => hv0 ⟨z, by omega⟩) (Or.inr ⟨pl, z5, nI nh, nI np, rh, rp, fail_at hq (by show ¬ 4 = 2; omega) (by omega) (fun z => by rw [e0, if_neg (fun w => hv0 ⟨z, w⟩)]), rfl, rfl⟩)
  refine r_piece1 (k := 0) (most := 4) hn hf (by omega) hnh a2 hnp (by omega) (by omega) (by omega) (fun v2 v3 => ?_)
  have hq1 : psI bt (pl + 1) = some (5, li, hk, updN pt np (bt pl - 48), an, kd, hd, nh, np) := by
    rw [show pl + 1 = pl + 1 by omega, psI_s hq, e0, if_pos hv0.2]
  have e1 : psS (5, li, hk, updN pt np (bt pl - 48), an, kd, hd, nh, np) (bt (pl + 1)) = if 48 ≤ bt (pl + 1) ∧ bt (pl + 1) < 48 + 8 then some (6, li, hk, updN pt np (bt pl - 48), updN an np (bt (pl + 1) - 48), kd, hd, nh, np) else none := rfl
  by_cases hv1 : (pl + 1) < n ∧ 48 ≤ bt (pl + 1) ∧ bt (pl + 1) < 48 + 8
  rotate_left
  · exact r_piece0 (k := 1) (most := 7) hn hf (by omega) hnh a2 hnp (by omega) (by omega) (fun z w => hv1 ⟨z, by omega⟩) (Or.inr ⟨(pl + 1), z5, nI nh, nI np, rh, (upd rp (4 * np + 0) (nI (bt pl - 48))), fail_at hq1 (by show ¬ 5 = 2; omega) (by omega) (fun z => by rw [e1, if_neg (fun w => hv1 ⟨z, w⟩)]), rfl, rfl⟩)
  refine r_piece1 (k := 1) (most := 7) hn hf (by omega) hnh a2 hnp (by omega) (by omega) (by omega) (fun v2 v3 => ?_)
  have hq2 : psI bt (pl + 2) = some (6, li, hk, updN pt np (bt pl - 48), updN an np (bt (pl + 1) - 48), kd, hd, nh, np) := by
    rw [show pl + 2 = (pl + 1) + 1 by omega, psI_s hq1, e1, if_pos hv1.2]
  rw [show (pl + 1) + 1 = pl + 2 by omega]
  have e2 : psS (6, li, hk, updN pt np (bt pl - 48), updN an np (bt (pl + 1) - 48), kd, hd, nh, np) (bt (pl + 2)) = if 48 ≤ bt (pl + 2) ∧ bt (pl + 2) < 48 + 4 then some (7, li, hk, updN pt np (bt pl - 48), updN an np (bt (pl + 1) - 48), updN kd np (bt (pl + 2) - 48), hd, nh, np) else none := rfl
  by_cases hv2 : (pl + 2) < n ∧ 48 ≤ bt (pl + 2) ∧ bt (pl + 2) < 48 + 4
  rotate_left
  · exact r_piece0 (k := 2) (most := 3) hn hf (by omega) hnh a2 hnp (by omega) (by omega) (fun z w => hv2 ⟨z, by omega⟩) (Or.inr ⟨(pl + 2), z5, nI nh, nI np, rh, (upd (upd rp (4 * np + 0) (nI (bt pl - 48))) (4 * np + 1) (nI (bt (pl + 1) - 48))), fail_at hq2 (by show ¬ 6 = 2; omega) (by omega) (fun z => by rw [e2, if_neg (fun w => hv2 ⟨z, w⟩)]), rfl, rfl⟩)
  refine r_piece1 (k := 2) (most := 3) hn hf (by omega) hnh a2 hnp (by omega) (by omega) (by omega) (fun v2 v3 => ?_)
  have hq3 : psI bt (pl + 3) = some (7, li, hk, updN pt np (bt pl - 48), updN an np (bt (pl + 1) - 48), updN kd np (bt (pl + 2) - 48), hd, nh, np) := by
    rw [show pl + 3 = (pl + 2) + 1 by omega, psI_s hq2, e2, if_pos hv2.2]
  rw [show (pl + 2) + 1 = pl + 3 by omega]
  have e3 : psS (7, li, hk, updN pt np (bt pl - 48), updN an np (bt (pl + 1) - 48), updN kd np (bt (pl + 2) - 48), hd, nh, np) (bt (pl + 3)) = if 48 ≤ bt (pl + 3) ∧ bt (pl + 3) < 48 + nh then some (2, li, hk, updN pt np (bt pl - 48), updN an np (bt (pl + 1) - 48), updN kd np (bt (pl + 2) - 48), updN hd np (bt (pl + 3) - 48), nh, np + 1) else none := rfl
  by_cases hv3 : (pl + 3) < n ∧ 48 ≤ bt (pl + 3) ∧ bt (pl + 3) < 48 + nh
  rotate_left
  · exact r_piece0 (k := 3) (most := (nh - 1)) hn hf (by omega) hnh a2 hnp (by omega) (by omega) (fun z w => hv3 ⟨z, by omega⟩) (Or.inr ⟨(pl + 3), z5, nI nh, nI np, rh, (upd (upd (upd rp (4 * np + 0) (nI (bt pl - 48))) (4 * np + 1) (nI (bt (pl + 1) - 48))) (4 * np + 2) (nI (bt (pl + 2) - 48))), fail_at hq3 (by show ¬ 7 = 2; omega) (by omega) (fun z => by rw [e3, if_neg (fun w => hv3 ⟨z, w⟩)]), rfl, rfl⟩)
  refine r_piece1 (k := 3) (most := (nh - 1)) hn hf (by omega) hnh a2 hnp (by omega) (by omega) (by omega) (fun v2 v3 => ?_)
  have hq4 : psI bt (pl + 4) = some (2, li, hk, updN pt np (bt pl - 48), updN an np (bt (pl + 1) - 48), updN kd np (bt (pl + 2) - 48), updN hd np (bt (pl + 3) - 48), nh, np + 1) := by
    rw [show pl + 4 = (pl + 3) + 1 by omega, psI_s hq3, e3, if_pos hv3.2]
  rw [show (pl + 3) + 1 = pl + 4 by omega]
  refine Run.iload_n d_Rf_readOnePiece_2 rfl ?_
  refine Run.iconst (v := nI 4) d_Rf_readOnePiece_3 ic_4 ?_
  first | refine Run.icmp_ge_n d_Rf_readOnePiece_4 (by omega) (by omega) (fun c4 => ?_) (fun c4 => ?_) | refine Run.icmp_ge d_Rf_readOnePiece_4 (fun c4 => ?_) (fun c4 => ?_)
  · refine Run.aload_n d_Rf_readOnePiece_75 rfl ?_
    refine Run.dup d_Rf_readOnePiece_76 rfl ?_
    refine Run.getf d_Rf_readOnePiece_77 fl_Rf_88 (by first | rfl | assumption) (by rfl) ?_
    refine Run.iconst (v := nI 1) d_Rf_readOnePiece_80 ic_1 ?_
    first | refine Run.iadd_n d_Rf_readOnePiece_81 ?_ | refine Run.iadd d_Rf_readOnePiece_81 ?_
    refine Run.putf d_Rf_readOnePiece_82 fl_Rf_88 (fun _ => rfl) (fun _ => rfl) (by first | rfl | assumption) (by exact Nat.le_of_ble_eq_true rfl) ?_
    refine Run.iconst (v := nI 1) d_Rf_readOnePiece_85 ic_1 ?_
    refine Run.iret d_Rf_readOnePiece_86 rfl (by first | exact bI_nar _ | decide +kernel) ?_
    refine Or.inl ⟨pl + 4, (2, li, hk, updN pt np (bt pl - 48), updN an np (bt (pl + 1) - 48), updN kd np (bt (pl + 2) - 48), updN hd np (bt (pl + 3) - 48), nh, np + 1), z5, nI nh, nI (np + 1), rh, (upd (upd (upd (upd rp (4 * np + 0) (nI (bt pl - 48))) (4 * np + 1) (nI (bt (pl + 1) - 48))) (4 * np + 2) (nI (bt (pl + 2) - 48))) (4 * np + 3) (nI (bt (pl + 3) - 48))), hq4, rfl, by omega, by omega, ⟨fun z => r1, rfl, rfl, r4, fun i hi => ?_, fun z => by omega, fun z => by omega, fun z => by omega⟩, rfl, rfl⟩
    by_cases e : i = np
    · subst e
      simp only [updN_s]
      refine ⟨?_, ?_, ?_, ?_⟩
      · rw [pk_un (by omega), pk_un (by omega), pk_un (by omega), show 4 * i = 4 * i + 0 from rfl, pk_us]
      · rw [pk_un (by omega), pk_un (by omega), pk_us]
      · rw [pk_un (by omega), pk_us]
      · rw [pk_us]
    · simp only [updN_n e]
      rw [pk_un (by omega), pk_un (by omega), pk_un (by omega), pk_un (by omega), pk_un (by omega), pk_un (by omega), pk_un (by omega), pk_un (by omega), pk_un (by omega), pk_un (by omega), pk_un (by omega), pk_un (by omega), pk_un (by omega), pk_un (by omega), pk_un (by omega), pk_un (by omega)]
      exact r5 i (by omega)
  · omega
theorem q_Rf_thing {pl : Nat} {q : PS} (hn : n ≤ 48) (hf : ∀ k, k < n → tx k = nI (bt k) ∧ bt k < 256) (hpl : pl < n) (hq : psI bt pl = some q) (h2 : q.1 = 2) (hr : RdR q z5 z6 z7 rh rp) : Call X (d + 3) 0 0 M_Rf_readThing [.ref 44] (PX f0 ++ hMx (nI n) (nI pl) z3 z4 z5 z6 z7 z8 z9 sd y1 y2 y3 y4 tx ho pi rh rp pg tr bk kp ik ta tp ga gr va rw) (fun r h2 => (∃ pl2 q2 w5 w6 w7 rh2 rp2, psI bt pl2 = some q2 ∧ q2.1 = 2 ∧ pl2 ≤ n ∧ pl < pl2 ∧ RdR q2 w5 w6 w7 rh2 rp2 ∧ r = some (.int (bI true)) ∧ h2 = PX f0 ++ hMx (nI n) (nI pl2) z3 z4 w5 w6 w7 z8 z9 sd y1 y2 y3 y4 tx ho pi rh2 rp2 pg tr bk kp ik ta tp ga gr va rw) ∨ (∃ pl2 w5 w6 w7 rh2 rp2, FlA bt n pl2 ∧ r = some (.int (bI false)) ∧ h2 = PX f0 ++ hMx (nI n) (nI pl2) z3 z4 w5 w6 w7 z8 z9 sd y1 y2 y3 y4 tx ho pi rh2 rp2 pg tr bk kp ik ta tp ga gr va rw)) := by
  show Run X (d + 3) 0 0 M_Rf_readThing 0 [some (.ref 44), none] [] _ _
  obtain ⟨du, li, hk, pt, an, kd, hd, nh, np⟩ := q
  have h2 : du = 2 := h2
  subst h2
  obtain ⟨a1, a2, a3, a4, a5, a6, a7, a8, a9, a10, a11⟩ := psI_ok hq
  have hr' := hr
  obtain ⟨r1, r2, r3, r4, r5, r6, r7, r8⟩ := hr'
  subst r2
  subst r3
  have r1 := r1 (by omega)
  have hb := (hf pl hpl).2
  have e0 : psS (2, li, hk, pt, an, kd, hd, nh, np) (bt pl) = if bt pl = 72 ∧ nh < 4 then some (3, li, hk, pt, an, kd, hd, nh, np) else if bt pl = 67 ∧ 0 < nh ∧ np < 6 then some (4, li, hk, pt, an, kd, hd, nh, np) else none := rfl
  refine Run.aload_n d_Rf_readThing_0 rfl ?_
  refine Run.getf d_Rf_readThing_1 fl_Rf_7 (by first | rfl | assumption) (by rfl) ?_
  refine Run.aload_n d_Rf_readThing_4 rfl ?_
  refine Run.getf d_Rf_readThing_5 fl_Rf_78 (by first | rfl | assumption) (by rfl) ?_
  refine Run.iald_n d_Rf_readThing_8 (by first | rfl | assumption) (by omega) (by omega) ?_
  rw [(hf pl hpl).1]
  refine Run.istore_n d_Rf_readThing_9 rfl rfl ?_
  show Run _ _ _ _ _ _ [_, _] _ _ _
  refine Run.aload_n d_Rf_readThing_10 rfl ?_
  refine Run.dup d_Rf_readThing_11 rfl ?_
  refine Run.getf d_Rf_readThing_12 fl_Rf_78 (by first | rfl | assumption) (by rfl) ?_
  refine Run.iconst (v := nI 1) d_Rf_readThing_15 ic_1 ?_
  first | refine Run.iadd_n d_Rf_readThing_16 ?_ | refine Run.iadd d_Rf_readThing_16 ?_
  refine Run.putf d_Rf_readThing_17 fl_Rf_78 (fun _ => rfl) (fun _ => rfl) (by first | rfl | assumption) (by exact Nat.le_of_ble_eq_true rfl) ?_
  refine run_hp (show _ = PX f0 ++ hMx (nI n) (nI (pl + 1)) z3 z4 z5 (nI nh) (nI np) z8 z9 sd y1 y2 y3 y4 tx ho pi rh rp pg tr bk kp ik ta tp ga gr va rw from rfl) ?_
  refine Run.iload_n d_Rf_readThing_20 rfl ?_
  refine Run.bipush (v := nI 72) d_Rf_readThing_21 bp_72 ?_
  first | refine Run.icmp_ne_n d_Rf_readThing_23 (by omega) (by omega) (fun c23 => ?_) (fun c23 => ?_) | refine Run.icmp_ne d_Rf_readThing_23 (fun c23 => ?_) (fun c23 => ?_)
  · refine Run.iload_n d_Rf_readThing_39 rfl ?_
    refine Run.bipush (v := nI 67) d_Rf_readThing_40 bp_67 ?_
    first | refine Run.icmp_ne_n d_Rf_readThing_42 (by omega) (by omega) (fun c42 => ?_) (fun c42 => ?_) | refine Run.icmp_ne d_Rf_readThing_42 (fun c42 => ?_) (fun c42 => ?_)
    · refine Run.aload_n d_Rf_readThing_66 rfl ?_
      refine Run.dup d_Rf_readThing_67 rfl ?_
      refine Run.getf d_Rf_readThing_68 fl_Rf_78 (by first | rfl | assumption) (by rfl) ?_
      refine Run.iconst (v := nI 1) d_Rf_readThing_71 ic_1 ?_
      first | refine Run.isub_n d_Rf_readThing_72 (by omega) ?_ | refine Run.isub d_Rf_readThing_72 ?_
      refine Run.putf d_Rf_readThing_73 fl_Rf_78 (fun _ => rfl) (fun _ => rfl) (by first | rfl | assumption) (by exact Nat.le_of_ble_eq_true rfl) ?_
      refine Run.iconst (v := nI 0) d_Rf_readThing_76 ic_0 ?_
      refine Run.iret d_Rf_readThing_77 rfl (by first | exact bI_nar _ | decide +kernel) ?_
      refine Or.inr ⟨pl, z5, nI nh, nI np, rh, rp, bad_at hq hpl ?_, rfl, rfl⟩
      rw [e0, if_neg (fun w => by omega), if_neg (fun w => by omega)]
    · refine Run.aload_n d_Rf_readThing_45 rfl ?_
      refine Run.getf d_Rf_readThing_46 fl_Rf_88 (by first | rfl | assumption) (by rfl) ?_
      refine Run.bipush (v := nI 6) d_Rf_readThing_49 bp_6 ?_
      first | refine Run.icmp_ge_n d_Rf_readThing_51 (by omega) (by omega) (fun c51 => ?_) (fun c51 => ?_) | refine Run.icmp_ge d_Rf_readThing_51 (fun c51 => ?_) (fun c51 => ?_)
      · refine Run.aload_n d_Rf_readThing_66 rfl ?_
        refine Run.dup d_Rf_readThing_67 rfl ?_
        refine Run.getf d_Rf_readThing_68 fl_Rf_78 (by first | rfl | assumption) (by rfl) ?_
        refine Run.iconst (v := nI 1) d_Rf_readThing_71 ic_1 ?_
        first | refine Run.isub_n d_Rf_readThing_72 (by omega) ?_ | refine Run.isub d_Rf_readThing_72 ?_
        refine Run.putf d_Rf_readThing_73 fl_Rf_78 (fun _ => rfl) (fun _ => rfl) (by first | rfl | assumption) (by exact Nat.le_of_ble_eq_true rfl) ?_
        refine Run.iconst (v := nI 0) d_Rf_readThing_76 ic_0 ?_
        refine Run.iret d_Rf_readThing_77 rfl (by first | exact bI_nar _ | decide +kernel) ?_
        refine Or.inr ⟨pl, z5, nI nh, nI np, rh, rp, bad_at hq hpl ?_, rfl, rfl⟩
        rw [e0, if_neg (fun w => by omega), if_neg (fun w => by omega)]
      · refine Run.aload_n d_Rf_readThing_54 rfl ?_
        refine Run.getf d_Rf_readThing_55 fl_Rf_85 (by first | rfl | assumption) (by rfl) ?_
        first | refine Run.if_le_n d_Rf_readThing_58 (by omega) (fun c58 => ?_) (fun c58 => ?_) | refine Run.if_le d_Rf_readThing_58 (fun c58 => ?_) (fun c58 => ?_)
        · refine Run.aload_n d_Rf_readThing_66 rfl ?_
          refine Run.dup d_Rf_readThing_67 rfl ?_
          refine Run.getf d_Rf_readThing_68 fl_Rf_78 (by first | rfl | assumption) (by rfl) ?_
          refine Run.iconst (v := nI 1) d_Rf_readThing_71 ic_1 ?_
          first | refine Run.isub_n d_Rf_readThing_72 (by omega) ?_ | refine Run.isub d_Rf_readThing_72 ?_
          refine Run.putf d_Rf_readThing_73 fl_Rf_78 (fun _ => rfl) (fun _ => rfl) (by first | rfl | assumption) (by exact Nat.le_of_ble_eq_true rfl) ?_
          refine Run.iconst (v := nI 0) d_Rf_readThing_76 ic_0 ?_
          refine Run.iret d_Rf_readThing_77 rfl (by first | exact bI_nar _ | decide +kernel) ?_
          refine Or.inr ⟨pl, z5, nI nh, nI np, rh, rp, bad_at hq hpl ?_, rfl, rfl⟩
          rw [e0, if_neg (fun w => by omega), if_neg (fun w => by omega)]
        · have hq1 : psI bt (pl + 1) = some (4, li, hk, pt, an, kd, hd, nh, np) := by rw [psI_s hq, e0, if_neg (fun w => by omega), if_pos ⟨c42, c58, c51⟩]
          refine Run.aload_n d_Rf_readThing_61 rfl ?_
          refine Run.V0 d_Rf_readThing_62 lk_Rf_95 cm_Rf_readOnePiece iv_Rf_readOnePiece rfl (by first | rfl | assumption) (Nat.le_of_ble_eq_true rfl) (Nat.le_of_ble_eq_true rfl) (q_Rf_onePiece hn hf (by omega) hq1 ⟨fun z => r1, rfl, rfl, r4, r5, fun z => by omega, fun z => by omega, fun z => by omega⟩) (fun r62 h62 q62 => ?_)
          rcases q62 with ⟨pl2, q2, w5, w6, w7, rh2, rp2, b1, b2, b3, b4, b5, rfl, rfl⟩ | ⟨pl2, w5, w6, w7, rh2, rp2, b1, rfl, rfl⟩
          · refine Run.iret d_Rf_readThing_65 rfl (bI_nar _) ?_
            exact Or.inl ⟨pl2, q2, w5, w6, w7, rh2, rp2, b1, b2, b3, by omega, b5, rfl, rfl⟩
          · refine Run.iret d_Rf_readThing_65 rfl (bI_nar _) ?_
            exact Or.inr ⟨pl2, w5, w6, w7, rh2, rp2, b1, rfl, rfl⟩
  · refine Run.aload_n d_Rf_readThing_26 rfl ?_
    refine Run.getf d_Rf_readThing_27 fl_Rf_85 (by first | rfl | assumption) (by rfl) ?_
    refine Run.iconst (v := nI 4) d_Rf_readThing_30 ic_4 ?_
    first | refine Run.icmp_ge_n d_Rf_readThing_31 (by omega) (by omega) (fun c31 => ?_) (fun c31 => ?_) | refine Run.icmp_ge d_Rf_readThing_31 (fun c31 => ?_) (fun c31 => ?_)
    · refine Run.iload_n d_Rf_readThing_39 rfl ?_
      refine Run.bipush (v := nI 67) d_Rf_readThing_40 bp_67 ?_
      first | refine Run.icmp_ne_n d_Rf_readThing_42 (by omega) (by omega) (fun c42 => ?_) (fun c42 => ?_) | refine Run.icmp_ne d_Rf_readThing_42 (fun c42 => ?_) (fun c42 => ?_)
      · refine Run.aload_n d_Rf_readThing_66 rfl ?_
        refine Run.dup d_Rf_readThing_67 rfl ?_
        refine Run.getf d_Rf_readThing_68 fl_Rf_78 (by first | rfl | assumption) (by rfl) ?_
        refine Run.iconst (v := nI 1) d_Rf_readThing_71 ic_1 ?_
        first | refine Run.isub_n d_Rf_readThing_72 (by omega) ?_ | refine Run.isub d_Rf_readThing_72 ?_
        refine Run.putf d_Rf_readThing_73 fl_Rf_78 (fun _ => rfl) (fun _ => rfl) (by first | rfl | assumption) (by exact Nat.le_of_ble_eq_true rfl) ?_
        refine Run.iconst (v := nI 0) d_Rf_readThing_76 ic_0 ?_
        refine Run.iret d_Rf_readThing_77 rfl (by first | exact bI_nar _ | decide +kernel) ?_
        refine Or.inr ⟨pl, z5, nI nh, nI np, rh, rp, bad_at hq hpl ?_, rfl, rfl⟩
        rw [e0, if_neg (fun w => by omega), if_neg (fun w => by omega)]
      · refine Run.aload_n d_Rf_readThing_45 rfl ?_
        refine Run.getf d_Rf_readThing_46 fl_Rf_88 (by first | rfl | assumption) (by rfl) ?_
        refine Run.bipush (v := nI 6) d_Rf_readThing_49 bp_6 ?_
        first | refine Run.icmp_ge_n d_Rf_readThing_51 (by omega) (by omega) (fun c51 => ?_) (fun c51 => ?_) | refine Run.icmp_ge d_Rf_readThing_51 (fun c51 => ?_) (fun c51 => ?_)
        · refine Run.aload_n d_Rf_readThing_66 rfl ?_
          refine Run.dup d_Rf_readThing_67 rfl ?_
          refine Run.getf d_Rf_readThing_68 fl_Rf_78 (by first | rfl | assumption) (by rfl) ?_
          refine Run.iconst (v := nI 1) d_Rf_readThing_71 ic_1 ?_
          first | refine Run.isub_n d_Rf_readThing_72 (by omega) ?_ | refine Run.isub d_Rf_readThing_72 ?_
          refine Run.putf d_Rf_readThing_73 fl_Rf_78 (fun _ => rfl) (fun _ => rfl) (by first | rfl | assumption) (by exact Nat.le_of_ble_eq_true rfl) ?_
          refine Run.iconst (v := nI 0) d_Rf_readThing_76 ic_0 ?_
          refine Run.iret d_Rf_readThing_77 rfl (by first | exact bI_nar _ | decide +kernel) ?_
          refine Or.inr ⟨pl, z5, nI nh, nI np, rh, rp, bad_at hq hpl ?_, rfl, rfl⟩
          rw [e0, if_neg (fun w => by omega), if_neg (fun w => by omega)]
        · refine Run.aload_n d_Rf_readThing_54 rfl ?_
          refine Run.getf d_Rf_readThing_55 fl_Rf_85 (by first | rfl | assumption) (by rfl) ?_
          first | refine Run.if_le_n d_Rf_readThing_58 (by omega) (fun c58 => ?_) (fun c58 => ?_) | refine Run.if_le d_Rf_readThing_58 (fun c58 => ?_) (fun c58 => ?_)
          · refine Run.aload_n d_Rf_readThing_66 rfl ?_
            refine Run.dup d_Rf_readThing_67 rfl ?_
            refine Run.getf d_Rf_readThing_68 fl_Rf_78 (by first | rfl | assumption) (by rfl) ?_
            refine Run.iconst (v := nI 1) d_Rf_readThing_71 ic_1 ?_
            first | refine Run.isub_n d_Rf_readThing_72 (by omega) ?_ | refine Run.isub d_Rf_readThing_72 ?_
            refine Run.putf d_Rf_readThing_73 fl_Rf_78 (fun _ => rfl) (fun _ => rfl) (by first | rfl | assumption) (by exact Nat.le_of_ble_eq_true rfl) ?_
            refine Run.iconst (v := nI 0) d_Rf_readThing_76 ic_0 ?_
            refine Run.iret d_Rf_readThing_77 rfl (by first | exact bI_nar _ | decide +kernel) ?_
            refine Or.inr ⟨pl, z5, nI nh, nI np, rh, rp, bad_at hq hpl ?_, rfl, rfl⟩
            rw [e0, if_neg (fun w => by omega), if_neg (fun w => by omega)]
          · have hq1 : psI bt (pl + 1) = some (4, li, hk, pt, an, kd, hd, nh, np) := by rw [psI_s hq, e0, if_neg (fun w => by omega), if_pos ⟨c42, c58, c51⟩]
            refine Run.aload_n d_Rf_readThing_61 rfl ?_
            refine Run.V0 d_Rf_readThing_62 lk_Rf_95 cm_Rf_readOnePiece iv_Rf_readOnePiece rfl (by first | rfl | assumption) (Nat.le_of_ble_eq_true rfl) (Nat.le_of_ble_eq_true rfl) (q_Rf_onePiece hn hf (by omega) hq1 ⟨fun z => r1, rfl, rfl, r4, r5, fun z => by omega, fun z => by omega, fun z => by omega⟩) (fun r62 h62 q62 => ?_)
            rcases q62 with ⟨pl2, q2, w5, w6, w7, rh2, rp2, b1, b2, b3, b4, b5, rfl, rfl⟩ | ⟨pl2, w5, w6, w7, rh2, rp2, b1, rfl, rfl⟩
            · refine Run.iret d_Rf_readThing_65 rfl (bI_nar _) ?_
              exact Or.inl ⟨pl2, q2, w5, w6, w7, rh2, rp2, b1, b2, b3, by omega, b5, rfl, rfl⟩
            · refine Run.iret d_Rf_readThing_65 rfl (bI_nar _) ?_
              exact Or.inr ⟨pl2, w5, w6, w7, rh2, rp2, b1, rfl, rfl⟩
    · have hq1 : psI bt (pl + 1) = some (3, li, hk, pt, an, kd, hd, nh, np) := by rw [psI_s hq, e0, if_pos ⟨c23, c31⟩]
      refine Run.aload_n d_Rf_readThing_34 rfl ?_
      refine Run.V0 d_Rf_readThing_35 lk_Rf_91 cm_Rf_readOneHolder iv_Rf_readOneHolder rfl (by first | rfl | assumption) (Nat.le_of_ble_eq_true rfl) (Nat.le_of_ble_eq_true rfl) (q_Rf_oneHolder hn hf (by omega) hq1 ⟨fun z => r1, rfl, rfl, r4, r5, fun z => by omega, fun z => by omega, fun z => by omega⟩) (fun r35 h35 q35 => ?_)
      rcases q35 with ⟨pl2, q2, w5, w6, w7, rh2, rp2, b1, b2, b3, b4, b5, rfl, rfl⟩ | ⟨pl2, w5, w6, w7, rh2, rp2, b1, rfl, rfl⟩
      · refine Run.iret d_Rf_readThing_38 rfl (bI_nar _) ?_
        exact Or.inl ⟨pl2, q2, w5, w6, w7, rh2, rp2, b1, b2, b3, by omega, b5, rfl, rfl⟩
      · refine Run.iret d_Rf_readThing_38 rfl (bI_nar _) ?_
        exact Or.inr ⟨pl2, w5, w6, w7, rh2, rp2, b1, rfl, rfl⟩
theorem r_read64 (hn : n ≤ 48) (hf : ∀ k, k < n → tx k = nI (bt k) ∧ bt k < 256) : ∀ m pl q (z5 z6 z7 : Int32) (rh rp : FI), n - pl ≤ m → pl ≤ n → psI bt pl = some q → q.1 = 2 → RdR q z5 z6 z7 rh rp → Run X (d + 4) 0 0 M_Rf_readCoast 64 [some (.ref 44)] [] (PX f0 ++ hMx (nI n) (nI pl) z3 z4 z5 z6 z7 z8 z9 sd y1 y2 y3 y4 tx ho pi rh rp pg tr bk kp ik ta tp ga gr va rw) (fun r h2 => r = some (.int (fltR bt n)) ∧ ∃ w2 w5 w6 w7 rh2 rp2, h2 = PX f0 ++ hMx (nI n) w2 z3 z4 w5 w6 w7 z8 z9 sd y1 y2 y3 y4 tx ho pi rh2 rp2 pg tr bk kp ik ta tp ga gr va rw ∧ ∀ q, psI bt n = some q → q.1 = 2 → RdR q w5 w6 w7 rh2 rp2) := by
  intro m
  induction m with
  | zero =>
    intro pl q z5 z6 z7 rh rp hm hpl hq h2 hr
    have e8 : pl = n := by omega
    subst e8
    refine Run.aload_n d_Rf_readCoast_64 rfl ?_
    refine Run.getf d_Rf_readCoast_65 fl_Rf_78 (by first | rfl | assumption) (by rfl) ?_
    refine Run.aload_n d_Rf_readCoast_68 rfl ?_
    refine Run.getf d_Rf_readCoast_69 fl_Rf_75 (by first | rfl | assumption) (by rfl) ?_
    first | refine Run.icmp_ge_n d_Rf_readCoast_72 (by omega) (by omega) (fun c72 => ?_) (fun c72 => ?_) | refine Run.icmp_ge d_Rf_readCoast_72 (fun c72 => ?_) (fun c72 => ?_)
    · refine Run.bipush (v := -9) d_Rf_readCoast_87 bp_m9 ?_
      refine Run.iret d_Rf_readCoast_89 rfl rfl ?_
      exact ⟨by rw [flt_end hq, if_pos h2], nI pl, z5, z6, z7, rh, rp, rfl, fun q2 hq2 _ => by rw [hq] at hq2; cases hq2; exact hr⟩
    · omega
  | succ m ih =>
    intro pl q z5 z6 z7 rh rp hm hpl hq h2 hr
    have hA : ∀ (pl2 : Nat) (w5 w6 w7 : Int32) (rh2 rp2 : FI), FlA bt n pl2 → Run X (d + 4) 0 0 M_Rf_readCoast 79 [some (.ref 44)] [.int (bI false)] (PX f0 ++ hMx (nI n) (nI pl2) z3 z4 w5 w6 w7 z8 z9 sd y1 y2 y3 y4 tx ho pi rh2 rp2 pg tr bk kp ik ta tp ga gr va rw) (fun r h2 => r = some (.int (fltR bt n)) ∧ ∃ w2 w5 w6 w7 rh2 rp2, h2 = PX f0 ++ hMx (nI n) w2 z3 z4 w5 w6 w7 z8 z9 sd y1 y2 y3 y4 tx ho pi rh2 rp2 pg tr bk kp ik ta tp ga gr va rw ∧ ∀ q, psI bt n = some q → q.1 = 2 → RdR q w5 w6 w7 rh2 rp2) := by
      intro pl2 w5 w6 w7 rh2 rp2 hfl
      first | refine Run.if_ne_b d_Rf_readCoast_79 (fun c79 => ?_) (fun c79 => ?_) | refine Run.if_ne_n d_Rf_readCoast_79 (by omega) (fun c79 => ?_) (fun c79 => ?_) | refine Run.if_ne d_Rf_readCoast_79 (fun c79 => ?_) (fun c79 => ?_)
      · cases c79
      · refine Run.aload_n d_Rf_readCoast_82 rfl ?_
        refine Run.getf d_Rf_readCoast_83 fl_Rf_78 (by first | rfl | assumption) (by rfl) ?_
        refine Run.iret d_Rf_readCoast_86 rfl rfl ?_
        exact ⟨by rw [hfl.1], nI pl2, w5, w6, w7, rh2, rp2, rfl, fun q2 hq2 h22 => absurd h22 (hfl.2 q2 hq2)⟩
    have hB : ∀ (pl2 : Nat) (q2 : PS) (w5 w6 w7 : Int32) (rh2 rp2 : FI), psI bt pl2 = some q2 → q2.1 = 2 → pl2 ≤ n → pl < pl2 → RdR q2 w5 w6 w7 rh2 rp2 → Run X (d + 4) 0 0 M_Rf_readCoast 79 [some (.ref 44)] [.int (bI true)] (PX f0 ++ hMx (nI n) (nI pl2) z3 z4 w5 w6 w7 z8 z9 sd y1 y2 y3 y4 tx ho pi rh2 rp2 pg tr bk kp ik ta tp ga gr va rw) (fun r h2 => r = some (.int (fltR bt n)) ∧ ∃ w2 w5 w6 w7 rh2 rp2, h2 = PX f0 ++ hMx (nI n) w2 z3 z4 w5 w6 w7 z8 z9 sd y1 y2 y3 y4 tx ho pi rh2 rp2 pg tr bk kp ik ta tp ga gr va rw ∧ ∀ q, psI bt n = some q → q.1 = 2 → RdR q w5 w6 w7 rh2 rp2) := by
      intro pl2 q2 w5 w6 w7 rh2 rp2 b1 b2 b3 b4 b5
      first | refine Run.if_ne_b d_Rf_readCoast_79 (fun c79 => ?_) (fun c79 => ?_) | refine Run.if_ne_n d_Rf_readCoast_79 (by omega) (fun c79 => ?_) (fun c79 => ?_) | refine Run.if_ne d_Rf_readCoast_79 (fun c79 => ?_) (fun c79 => ?_)
      · exact ih pl2 q2 w5 w6 w7 rh2 rp2 (by omega) b3 b1 b2 b5
      · cases c79
    refine Run.aload_n d_Rf_readCoast_64 rfl ?_
    refine Run.getf d_Rf_readCoast_65 fl_Rf_78 (by first | rfl | assumption) (by rfl) ?_
    refine Run.aload_n d_Rf_readCoast_68 rfl ?_
    refine Run.getf d_Rf_readCoast_69 fl_Rf_75 (by first | rfl | assumption) (by rfl) ?_
    first | refine Run.icmp_ge_n d_Rf_readCoast_72 (by omega) (by omega) (fun c72 => ?_) (fun c72 => ?_) | refine Run.icmp_ge d_Rf_readCoast_72 (fun c72 => ?_) (fun c72 => ?_)
    · refine Run.bipush (v := -9) d_Rf_readCoast_87 bp_m9 ?_
      refine Run.iret d_Rf_readCoast_89 rfl rfl ?_
      have e8 : pl = n := by omega
      subst e8
      exact ⟨by rw [flt_end hq, if_pos h2], nI pl, z5, z6, z7, rh, rp, rfl, fun q2 hq2 _ => by rw [hq] at hq2; cases hq2; exact hr⟩
    · refine Run.aload_n d_Rf_readCoast_75 rfl ?_
      refine Run.V0 d_Rf_readCoast_76 lk_Rf_101 cm_Rf_readThing iv_Rf_readThing rfl (by first | rfl | assumption) (Nat.le_of_ble_eq_true rfl) (Nat.le_of_ble_eq_true rfl) (q_Rf_thing hn hf c72 hq h2 hr) (fun r76 h76 q76 => ?_)
      rcases q76 with ⟨pl2, q2, w5, w6, w7, rh2, rp2, b1, b2, b3, b4, b5, rfl, rfl⟩ | ⟨pl2, w5, w6, w7, rh2, rp2, b1, rfl, rfl⟩
      · exact hB pl2 q2 w5 w6 w7 rh2 rp2 b1 b2 b3 b4 b5
      · exact hA pl2 w5 w6 w7 rh2 rp2 b1
theorem q_Rf_readCoast (hn : n ≤ 48) (hf : ∀ k, k < n → tx k = nI (bt k) ∧ bt k < 256) : Call X (d + 4) 0 0 M_Rf_readCoast [.ref 44] (PX f0 ++ hMx (nI n) z2 z3 z4 z5 z6 z7 z8 z9 sd y1 y2 y3 y4 tx ho pi rh rp pg tr bk kp ik ta tp ga gr va rw) (fun r h2 => r = some (.int (fltR bt n)) ∧ ∃ w2 w5 w6 w7 rh2 rp2, h2 = PX f0 ++ hMx (nI n) w2 z3 z4 w5 w6 w7 z8 z9 sd y1 y2 y3 y4 tx ho pi rh2 rp2 pg tr bk kp ik ta tp ga gr va rw ∧ ∀ q, psI bt n = some q → q.1 = 2 → RdR q w5 w6 w7 rh2 rp2) := by
  show Run X (d + 4) 0 0 M_Rf_readCoast 0 [some (.ref 44)] [] _ _
  have h0 : psI bt 0 = some ps0 := rfl
  have e0 : psS ps0 (bt 0) = if bt 0 = 80 then some (1, 0, fun _ => 0, fun _ => 0, fun _ => 0, fun _ => 0, fun _ => 0, 0, 0) else none := rfl
  have e1 : psS (1, 0, fun _ => 0, fun _ => 0, fun _ => 0, fun _ => 0, fun _ => 0, 0, 0) (bt 1) = if 48 ≤ bt 1 ∧ bt 1 < 48 + 8 then some (2, bt 1 - 48, fun _ => 0, fun _ => 0, fun _ => 0, fun _ => 0, fun _ => 0, 0, 0) else none := rfl
  have k35 : 0 < n → bt 0 = 80 → Run X (d + 4) 0 0 M_Rf_readCoast 35 [some (.ref 44)] [] (PX f0 ++ hMx (nI n) (nI 0) z3 z4 z5 (nI 0) (nI 0) z8 z9 sd y1 y2 y3 y4 tx ho pi rh rp pg tr bk kp ik ta tp ga gr va rw) (fun r h2 => r = some (.int (fltR bt n)) ∧ ∃ w2 w5 w6 w7 rh2 rp2, h2 = PX f0 ++ hMx (nI n) w2 z3 z4 w5 w6 w7 z8 z9 sd y1 y2 y3 y4 tx ho pi rh2 rp2 pg tr bk kp ik ta tp ga gr va rw ∧ ∀ q, psI bt n = some q → q.1 = 2 → RdR q w5 w6 w7 rh2 rp2) := by
    intro h1 h80
    have hq1 : psI bt (0 + 1) = some (1, 0, fun _ => 0, fun _ => 0, fun _ => 0, fun _ => 0, fun _ => 0, 0, 0) := by rw [psI_s h0, e0, if_pos h80]
    by_cases hv : 1 < n ∧ 48 ≤ bt 1 ∧ bt 1 < 48 + 8
    · have hq2 : psI bt (1 + 1) = some (2, bt 1 - 48, fun _ => 0, fun _ => 0, fun _ => 0, fun _ => 0, fun _ => 0, 0, 0) := by rw [psI_s hq1, e1, if_pos hv.2]
      refine Run.aload_n d_Rf_readCoast_35 rfl ?_
      refine Run.iconst (v := nI 1) d_Rf_readCoast_36 ic_1 ?_
      refine Run.putf d_Rf_readCoast_37 fl_Rf_78 (fun _ => rfl) (fun _ => rfl) (by first | rfl | assumption) (by exact Nat.le_of_ble_eq_true rfl) ?_
      refine run_hp (show _ = PX f0 ++ hMx (nI n) (nI 1) z3 z4 z5 (nI 0) (nI 0) z8 z9 sd y1 y2 y3 y4 tx ho pi rh rp pg tr bk kp ik ta tp ga gr va rw from rfl) ?_
      refine Run.aload_n d_Rf_readCoast_40 rfl ?_
      refine Run.aload_n d_Rf_readCoast_41 rfl ?_
      refine Run.bipush (v := nI 7) d_Rf_readCoast_42 bp_7 ?_
      refine Run.V1r d_Rf_readCoast_44 lk_Rf_81 cm_Rf_figure iv_Rf_figure rfl (by first | rfl | assumption) (Nat.le_of_ble_eq_true rfl) (Nat.le_of_ble_eq_true rfl) (q_Rf_fig1 hn hf hv.1 (by omega) hv.2) ?_
      refine Run.putf d_Rf_readCoast_47 fl_Rf_98 (fun _ => rfl) (fun _ => rfl) (by first | rfl | assumption) (by exact Nat.le_of_ble_eq_true rfl) ?_
      refine Run.aload_n d_Rf_readCoast_50 rfl ?_
      refine Run.getf d_Rf_readCoast_51 fl_Rf_98 (by first | rfl | assumption) (by rfl) ?_
      refine Run.bipush (v := -9) d_Rf_readCoast_54 bp_m9 ?_
      first | refine Run.icmp_ne_n d_Rf_readCoast_56 (by omega) (by omega) (fun c56 => ?_) (fun c56 => ?_) | refine Run.icmp_ne d_Rf_readCoast_56 (fun c56 => ?_) (fun c56 => ?_)
      · exact r_read64 hn hf n 2 _ (nI (bt 1 - 48)) (nI 0) (nI 0) rh rp (by omega) (by omega) hq2 rfl ⟨fun z => rfl, rfl, rfl, fun j hj => by omega, fun i hi => by omega, fun z => by omega, fun z => by omega, fun z => by omega⟩
      · exact absurd c56 (nI_n9 (by omega))
    · have hfl : FlA bt n 1 := fail_at hq1 (by decide) (by omega) (fun z => by rw [e1, if_neg (fun w => hv ⟨z, w⟩)])
      refine Run.aload_n d_Rf_readCoast_35 rfl ?_
      refine Run.iconst (v := nI 1) d_Rf_readCoast_36 ic_1 ?_
      refine Run.putf d_Rf_readCoast_37 fl_Rf_78 (fun _ => rfl) (fun _ => rfl) (by first | rfl | assumption) (by exact Nat.le_of_ble_eq_true rfl) ?_
      refine run_hp (show _ = PX f0 ++ hMx (nI n) (nI 1) z3 z4 z5 (nI 0) (nI 0) z8 z9 sd y1 y2 y3 y4 tx ho pi rh rp pg tr bk kp ik ta tp ga gr va rw from rfl) ?_
      refine Run.aload_n d_Rf_readCoast_40 rfl ?_
      refine Run.aload_n d_Rf_readCoast_41 rfl ?_
      refine Run.bipush (v := nI 7) d_Rf_readCoast_42 bp_7 ?_
      refine Run.V1r d_Rf_readCoast_44 lk_Rf_81 cm_Rf_figure iv_Rf_figure rfl (by first | rfl | assumption) (Nat.le_of_ble_eq_true rfl) (Nat.le_of_ble_eq_true rfl) (q_Rf_fig0 hn hf (by omega) (by omega) (fun z w => hv ⟨z, w⟩)) ?_
      refine Run.putf d_Rf_readCoast_47 fl_Rf_98 (fun _ => rfl) (fun _ => rfl) (by first | rfl | assumption) (by exact Nat.le_of_ble_eq_true rfl) ?_
      refine Run.aload_n d_Rf_readCoast_50 rfl ?_
      refine Run.getf d_Rf_readCoast_51 fl_Rf_98 (by first | rfl | assumption) (by rfl) ?_
      refine Run.bipush (v := -9) d_Rf_readCoast_54 bp_m9 ?_
      first | refine Run.icmp_ne_n d_Rf_readCoast_56 (by omega) (by omega) (fun c56 => ?_) (fun c56 => ?_) | refine Run.icmp_ne d_Rf_readCoast_56 (fun c56 => ?_) (fun c56 => ?_)
      · exact absurd rfl c56
      · refine Run.aload_n d_Rf_readCoast_59 rfl ?_
        refine Run.getf d_Rf_readCoast_60 fl_Rf_78 (by first | rfl | assumption) (by rfl) ?_
        refine Run.iret d_Rf_readCoast_63 rfl rfl ?_
        exact ⟨by rw [hfl.1], nI 1, -9, nI 0, nI 0, rh, rp, rfl, fun q2 hq2 h22 => absurd h22 (hfl.2 q2 hq2)⟩
  by_cases hn0 : n = 0
  · subst hn0
    refine Run.aload_n d_Rf_readCoast_0 rfl ?_
    refine Run.iconst (v := nI 0) d_Rf_readCoast_1 ic_0 ?_
    refine Run.putf d_Rf_readCoast_2 fl_Rf_78 (fun _ => rfl) (fun _ => rfl) (by first | rfl | assumption) (by exact Nat.le_of_ble_eq_true rfl) ?_
    refine Run.aload_n d_Rf_readCoast_5 rfl ?_
    refine Run.iconst (v := nI 0) d_Rf_readCoast_6 ic_0 ?_
    refine Run.putf d_Rf_readCoast_7 fl_Rf_85 (fun _ => rfl) (fun _ => rfl) (by first | rfl | assumption) (by exact Nat.le_of_ble_eq_true rfl) ?_
    refine Run.aload_n d_Rf_readCoast_10 rfl ?_
    refine Run.iconst (v := nI 0) d_Rf_readCoast_11 ic_0 ?_
    refine Run.putf d_Rf_readCoast_12 fl_Rf_88 (fun _ => rfl) (fun _ => rfl) (by first | rfl | assumption) (by exact Nat.le_of_ble_eq_true rfl) ?_
    refine Run.aload_n d_Rf_readCoast_15 rfl ?_
    refine Run.getf d_Rf_readCoast_16 fl_Rf_75 (by first | rfl | assumption) (by rfl) ?_
    first | refine Run.if_eq_b d_Rf_readCoast_19 (fun c19 => ?_) (fun c19 => ?_) | refine Run.if_eq_n d_Rf_readCoast_19 (by omega) (fun c19 => ?_) (fun c19 => ?_) | refine Run.if_eq d_Rf_readCoast_19 (fun c19 => ?_) (fun c19 => ?_)
    · refine Run.iconst (v := nI 0) d_Rf_readCoast_33 ic_0 ?_
      refine Run.iret d_Rf_readCoast_34 rfl rfl ?_
      exact ⟨by rw [flt_end h0]; rfl, nI 0, z5, nI 0, nI 0, rh, rp, rfl, fun q2 hq2 h22 => by rw [h0] at hq2; cases hq2; exact absurd h22 (by decide)⟩
    · exact absurd rfl c19
  · have hb := (hf 0 (by omega)).2
    refine Run.aload_n d_Rf_readCoast_0 rfl ?_
    refine Run.iconst (v := nI 0) d_Rf_readCoast_1 ic_0 ?_
    refine Run.putf d_Rf_readCoast_2 fl_Rf_78 (fun _ => rfl) (fun _ => rfl) (by first | rfl | assumption) (by exact Nat.le_of_ble_eq_true rfl) ?_
    refine Run.aload_n d_Rf_readCoast_5 rfl ?_
    refine Run.iconst (v := nI 0) d_Rf_readCoast_6 ic_0 ?_
    refine Run.putf d_Rf_readCoast_7 fl_Rf_85 (fun _ => rfl) (fun _ => rfl) (by first | rfl | assumption) (by exact Nat.le_of_ble_eq_true rfl) ?_
    refine Run.aload_n d_Rf_readCoast_10 rfl ?_
    refine Run.iconst (v := nI 0) d_Rf_readCoast_11 ic_0 ?_
    refine Run.putf d_Rf_readCoast_12 fl_Rf_88 (fun _ => rfl) (fun _ => rfl) (by first | rfl | assumption) (by exact Nat.le_of_ble_eq_true rfl) ?_
    refine Run.aload_n d_Rf_readCoast_15 rfl ?_
    refine Run.getf d_Rf_readCoast_16 fl_Rf_75 (by first | rfl | assumption) (by rfl) ?_
    first | refine Run.if_eq_b d_Rf_readCoast_19 (fun c19 => ?_) (fun c19 => ?_) | refine Run.if_eq_n d_Rf_readCoast_19 (by omega) (fun c19 => ?_) (fun c19 => ?_) | refine Run.if_eq d_Rf_readCoast_19 (fun c19 => ?_) (fun c19 => ?_)
    · exact absurd c19 hn0
    · refine Run.aload_n d_Rf_readCoast_22 rfl ?_
      refine Run.getf d_Rf_readCoast_23 fl_Rf_7 (by first | rfl | assumption) (by rfl) ?_
      refine Run.iconst (v := nI 0) d_Rf_readCoast_26 ic_0 ?_
      refine Run.iald_n d_Rf_readCoast_27 (by first | rfl | assumption) (by omega) (by omega) ?_
      rw [(hf 0 (by omega)).1]
      refine Run.bipush (v := nI 80) d_Rf_readCoast_28 bp_80 ?_
      first | refine Run.icmp_eq_n d_Rf_readCoast_30 (by omega) (by omega) (fun c30 => ?_) (fun c30 => ?_) | refine Run.icmp_eq d_Rf_readCoast_30 (fun c30 => ?_) (fun c30 => ?_)
      · exact k35 (by omega) c30
      · refine Run.iconst (v := nI 0) d_Rf_readCoast_33 ic_0 ?_
        refine Run.iret d_Rf_readCoast_34 rfl rfl ?_
        have hfl : FlA bt n 0 := bad_at h0 (by omega) (by rw [e0, if_neg c30])
        exact ⟨by rw [hfl.1], nI 0, z5, nI 0, nI 0, rh, rp, rfl, fun q2 hq2 h22 => absurd h22 (hfl.2 q2 hq2)⟩
theorem q_Rf_fault (hn : n ≤ 48) (hf : ∀ k, k < n → tx k = nI (bt k) ∧ bt k < 256) : Call X (d + 5) 0 0 M_Rf_fault [.ref 44] (PX f0 ++ hMx (nI n) z2 z3 z4 z5 z6 z7 z8 z9 sd y1 y2 y3 y4 tx ho pi rh rp pg tr bk kp ik ta tp ga gr va rw) (fun r h2 => r = some (.int (fltR bt n)) ∧ ∃ w2 w5 w6 w7 rh2 rp2, h2 = PX f0 ++ hMx (nI n) w2 z3 z4 w5 w6 w7 z8 z9 sd y1 y2 y3 y4 tx ho pi rh2 rp2 pg tr bk kp ik ta tp ga gr va rw) := by
  show Run X (d + 5) 0 0 M_Rf_fault 0 [some (.ref 44)] [] _ _
  refine Run.aload_n d_Rf_fault_0 rfl ?_
  refine Run.iconst (v := nI 0) d_Rf_fault_1 ic_0 ?_
  refine Run.putf d_Rf_fault_2 fl_Rf_59 (fun _ => rfl) (fun _ => rfl) (by first | rfl | assumption) (by exact Nat.le_of_ble_eq_true rfl) ?_
  refine run_hp (show _ = PX f0 ++ hMx (nI n) z2 z3 z4 z5 z6 z7 z8 z9 sd y1 y2 y3 y4 tx ho pi rh rp pg tr bk kp ik ta tp ga gr va rw from rfl) ?_
  refine Run.aload_n d_Rf_fault_5 rfl ?_
  refine Run.V0 d_Rf_fault_6 lk_Rf_104 cm_Rf_readCoast iv_Rf_readCoast rfl (by first | rfl | assumption) (Nat.le_of_ble_eq_true rfl) (Nat.le_of_ble_eq_true rfl) (q_Rf_readCoast hn hf) (fun r6 h6 q6 => ?_)
  obtain ⟨rfl, w2, w5, w6, w7, rh2, rp2, rfl, -⟩ := q6
  refine Run.iret d_Rf_fault_9 rfl rfl ?_
  exact ⟨rfl, w2, w5, w6, w7, rh2, rp2, rfl⟩
end RPARSE
