/-! ===== the unknown piece (the reference) ===== -/
theorem mx6_u {f f' : Nat → Nat} {a0 : Nat} (h0 : a0 < 6) (h1 : f' a0 = f a0 + 1) (h2 : ∀ a, a ≠ a0 → f' a = f a) : mx6 f' = if mx6 f < f a0 + 1 then f a0 + 1 else mx6 f := by
  have g1 : ∀ a, a < 6 → f a ≤ mx6 f := fun a ha => mx6_ge 6 a ha
  have g2 : ∀ a, a < 6 → f' a ≤ mx6 f' := fun a ha => mx6_ge 6 a ha
  have g3 : mx6 f' ≤ if mx6 f < f a0 + 1 then f a0 + 1 else mx6 f := mx6_le 6 (fun a ha => by
    by_cases h : a = a0
    · subst h; rw [h1]; split <;> omega
    · rw [h2 a h]; have := g1 a ha; split <;> omega)
  have g4 : mx6 f ≤ mx6 f' := mx6_le 6 (fun a ha => by
    have := g2 a ha
    by_cases h : a = a0
    · subst h; omega
    · rw [h2 a h] at this; exact this)
  have g5 := g2 a0 h0
  rw [h1] at g5
  revert g3
  split <;> intro g3 <;> omega
section RUNK
variable {X : Nat × (Nat → Int32)} {d : Nat} {f0 : Nat → AC} {tx ho pi rh rp pg tr bk kp ik fa fb ga gr va rw : FI} {z1 z2 z3 z4 z5 z6 z7 z8 y1 y2 y3 y4 : Int32} {sd : Int64} {nt : Nat} {ta tv : Nat → Nat}
theorem c_Rf_answer {h : AH} {m g : Nat} (hm : m < 160) (hg : g < 8) : Call X (d + 2) 0 0 M_Rf_answer [.int (nI m), .int (nI g)] h (Ret (.int (nI (ansN m g))) h) := by
  show Run X (d + 2) 0 0 M_Rf_answer 0 [some (.int (nI m)), some (.int (nI g)), none] [] h _
  refine Run.iload_n d_Rf_answer_0 rfl ?_
  refine Run.bipush (v := nI 32) d_Rf_answer_1 bp_32 ?_
  first | refine Run.idiv_n d_Rf_answer_3 (by omega) (by omega) (by omega) ?_ | refine Run.idiv d_Rf_answer_3 (by decide +kernel) ?_
  refine Run.istore_n d_Rf_answer_4 rfl rfl ?_
  show Run _ _ _ _ _ _ [_, _, _] _ _ _
  refine Run.iload_n d_Rf_answer_5 rfl ?_
  refine Run.iload_n d_Rf_answer_6 rfl ?_
  refine Run.iconst (v := nI 4) d_Rf_answer_7 ic_4 ?_
  first | refine Run.idiv_n d_Rf_answer_8 (by omega) (by omega) (by omega) ?_ | refine Run.idiv d_Rf_answer_8 (by decide +kernel) ?_
  refine Run.bipush (v := nI 8) d_Rf_answer_9 bp_8 ?_
  first | refine Run.irem_n d_Rf_answer_11 (by omega) (by omega) (by omega) ?_ | refine Run.irem d_Rf_answer_11 (by decide +kernel) ?_
  refine Run.iload_n d_Rf_answer_12 rfl ?_
  refine Run.iconst (v := nI 4) d_Rf_answer_13 ic_4 ?_
  first | refine Run.irem_n d_Rf_answer_14 (by omega) (by omega) (by omega) ?_ | refine Run.irem d_Rf_answer_14 (by decide +kernel) ?_
  refine Run.iconst (v := nI 0) d_Rf_answer_15 ic_0 ?_
  refine Run.iload_n d_Rf_answer_16 rfl ?_
  refine Run.S5r d_Rf_answer_17 lk_Rf_115 cm_Rf_showsBy st_Rf_showsBy (Nat.le_of_ble_eq_true rfl) (Nat.le_of_ble_eq_true rfl) (c_Rf_showsBy (by omega) (by omega) (by omega) (by omega) hg) ?_
  first | refine Run.if_eq_b d_Rf_answer_20 (fun c20 => ?_) (fun c20 => ?_) | refine Run.if_eq_n d_Rf_answer_20 (by omega) (fun c20 => ?_) (fun c20 => ?_) | refine Run.if_eq d_Rf_answer_20 (fun c20 => ?_) (fun c20 => ?_)
  · refine Run.iconst (v := nI 5) d_Rf_answer_27 ic_5 ?_
    refine Run.iret d_Rf_answer_28 rfl rfl ?_
    exact ret_n (by simp [ansN, ans3, c20])
  · refine Run.iload_n d_Rf_answer_23 rfl ?_
    refine Run.goto d_Rf_answer_24 ?_
    refine Run.iret d_Rf_answer_28 rfl rfl ?_
    exact ret_n (by simp [ansN, ans3, c20])
theorem ansN_lt {m g : Nat} (hm : m < 160) : ansN m g < 6 := ans3_lt (by omega)
theorem c_Rf_mayBe {m : Nat} (hm : m < 160) (hnt : nt ≤ 6) (hta : ∀ j, j < nt → fa j = nI (ta j) ∧ ta j < 8) (htv : ∀ j, j < nt → fb j = nI (tv j) ∧ tv j < 6) : Call X (d + 3) 0 0 M_Rf_mayBe [.ref 44, .int (nI m)] (PX f0 ++ hM (z1, z2, z3, z4, z5, z6, z7, z8, nI nt, sd, y1, y2, y3, y4) tx ho pi rh rp pg tr bk kp ik fa fb ga gr va rw) (Ret (.int (bI (fitN ta tv nt m))) (PX f0 ++ hM (z1, z2, z3, z4, z5, z6, z7, z8, nI nt, sd, y1, y2, y3, y4) tx ho pi rh rp pg tr bk kp ik fa fb ga gr va rw)) := by
  show Run X (d + 3) 0 0 M_Rf_mayBe 0 [some (.ref 44), some (.int (nI m)), none, none] [] _ _
  refine Run.iconst (v := nI 1) d_Rf_mayBe_0 ic_1 ?_
  refine Run.istore_n d_Rf_mayBe_1 rfl rfl ?_
  show Run _ _ _ _ _ _ [_, _, _, _] _ _ _
  refine Run.iconst (v := nI 0) d_Rf_mayBe_2 ic_0 ?_
  refine Run.istore_n d_Rf_mayBe_3 rfl rfl ?_
  show Run _ _ _ _ _ _ [_, _, _, _] _ _ _
  refine upto nt (fun j => Run X (d + 3) 0 0 M_Rf_mayBe 4 [some (.ref 44), some (.int (nI m)), some (.int (bI (itN (fitF ta tv (m / 32) (m / 4 % 8) (m % 4)) true j))), some (.int (nI j))] [] (PX f0 ++ hM (z1, z2, z3, z4, z5, z6, z7, z8, nI nt, sd, y1, y2, y3, y4) tx ho pi rh rp pg tr bk kp ik fa fb ga gr va rw) (Ret (.int (bI (fitN ta tv nt m))) (PX f0 ++ hM (z1, z2, z3, z4, z5, z6, z7, z8, nI nt, sd, y1, y2, y3, y4) tx ho pi rh rp pg tr bk kp ik fa fb ga gr va rw))) ?_ 0 (Nat.zero_le _)
  intro j hj ih
  refine Run.iload_n d_Rf_mayBe_4 rfl ?_
  refine Run.aload_n d_Rf_mayBe_5 rfl ?_
  refine Run.getf d_Rf_mayBe_6 fl_Rf_146 (by first | rfl | assumption) (by rfl) ?_
  first | refine Run.icmp_ge_n d_Rf_mayBe_9 (by omega) (by omega) (fun c9 => ?_) (fun c9 => ?_) | refine Run.icmp_ge d_Rf_mayBe_9 (fun c9 => ?_) (fun c9 => ?_)
  · refine Run.iload_n d_Rf_mayBe_47 rfl ?_
    refine Run.iret d_Rf_mayBe_48 rfl (by first | exact bI_nar _ | decide +kernel) ?_
    exact ret_b (by rw [show j = nt by omega]; rfl)
  · refine Run.iload_n d_Rf_mayBe_12 rfl ?_
    first | refine Run.if_eq_b d_Rf_mayBe_13 (fun c13 => ?_) (fun c13 => ?_) | refine Run.if_eq_n d_Rf_mayBe_13 (by omega) (fun c13 => ?_) (fun c13 => ?_) | refine Run.if_eq d_Rf_mayBe_13 (fun c13 => ?_) (fun c13 => ?_)
    · refine Run.iconst (v := nI 0) d_Rf_mayBe_39 ic_0 ?_
      refine Run.istore_n d_Rf_mayBe_40 rfl rfl ?_
      show Run _ _ _ _ _ _ [_, _, _, _] _ _ _
      first | refine Run.iinc_n d_Rf_mayBe_41 ic_1 rfl rfl ?_ | refine Run.iinc d_Rf_mayBe_41 rfl rfl rfl ?_
      show Run _ _ _ _ _ _ [_, _, _, _] _ _ _
      refine Run.goto d_Rf_mayBe_44 ?_
      first
      | (refine run_cg ?_ (ih c9); rw [show itN (fitF ta tv (m / 32) (m / 4 % 8) (m % 4)) true (j + 1) = false from (by show fitF _ _ _ _ _ j _ = false; rw [c13]; rfl)]; rfl)
      | (refine run_cg ?_ (ih c9); rw [show itN (fitF ta tv (m / 32) (m / 4 % 8) (m % 4)) true (j + 1) = false from Eq.trans (congrArg (fun z => fitF ta tv (m / 32) (m / 4 % 8) (m % 4) j z) c13) (decide_eq_false c32)]; rfl)
      | (refine run_cg ?_ (ih c9); rw [show itN (fitF ta tv (m / 32) (m / 4 % 8) (m % 4)) true (j + 1) = true from Eq.trans (congrArg (fun z => fitF ta tv (m / 32) (m / 4 % 8) (m % 4) j z) c13) (decide_eq_true c32)]; rfl)
    · refine Run.iload_n d_Rf_mayBe_16 rfl ?_
      refine Run.aload_n d_Rf_mayBe_17 rfl ?_
      refine Run.getf d_Rf_mayBe_18 fl_Rf_41 (by first | rfl | assumption) (by rfl) ?_
      refine Run.iload_n d_Rf_mayBe_21 rfl ?_
      refine Run.iald_n d_Rf_mayBe_22 (by first | rfl | assumption) (by omega) (by omega) ?_
      rw [(hta j c9).1]
      have w1 := (hta j c9).2
      have w2 := (htv j c9).2
      have w3 := ansN_lt (g := ta j) hm
      refine Run.S2r d_Rf_mayBe_23 lk_Rf_219 cm_Rf_answer st_Rf_answer (Nat.le_of_ble_eq_true rfl) (Nat.le_of_ble_eq_true rfl) (c_Rf_answer hm (by omega)) ?_
      refine Run.aload_n d_Rf_mayBe_26 rfl ?_
      refine Run.getf d_Rf_mayBe_27 fl_Rf_44 (by first | rfl | assumption) (by rfl) ?_
      refine Run.iload_n d_Rf_mayBe_30 rfl ?_
      refine Run.iald_n d_Rf_mayBe_31 (by first | rfl | assumption) (by omega) (by omega) ?_
      rw [(htv j c9).1]
      first | refine Run.icmp_ne_n d_Rf_mayBe_32 (by omega) (by omega) (fun c32 => ?_) (fun c32 => ?_) | refine Run.icmp_ne d_Rf_mayBe_32 (fun c32 => ?_) (fun c32 => ?_)
      · refine Run.iconst (v := nI 0) d_Rf_mayBe_39 ic_0 ?_
        refine Run.istore_n d_Rf_mayBe_40 rfl rfl ?_
        show Run _ _ _ _ _ _ [_, _, _, _] _ _ _
        first | refine Run.iinc_n d_Rf_mayBe_41 ic_1 rfl rfl ?_ | refine Run.iinc d_Rf_mayBe_41 rfl rfl rfl ?_
        show Run _ _ _ _ _ _ [_, _, _, _] _ _ _
        refine Run.goto d_Rf_mayBe_44 ?_
        first
        | (refine run_cg ?_ (ih c9); rw [show itN (fitF ta tv (m / 32) (m / 4 % 8) (m % 4)) true (j + 1) = false from (by show fitF _ _ _ _ _ j _ = false; rw [c13]; rfl)]; rfl)
        | (refine run_cg ?_ (ih c9); rw [show itN (fitF ta tv (m / 32) (m / 4 % 8) (m % 4)) true (j + 1) = false from Eq.trans (congrArg (fun z => fitF ta tv (m / 32) (m / 4 % 8) (m % 4) j z) c13) (decide_eq_false c32)]; rfl)
        | (refine run_cg ?_ (ih c9); rw [show itN (fitF ta tv (m / 32) (m / 4 % 8) (m % 4)) true (j + 1) = true from Eq.trans (congrArg (fun z => fitF ta tv (m / 32) (m / 4 % 8) (m % 4) j z) c13) (decide_eq_true c32)]; rfl)
      · refine Run.iconst (v := nI 1) d_Rf_mayBe_35 ic_1 ?_
        refine Run.goto d_Rf_mayBe_36 ?_
        refine Run.istore_n d_Rf_mayBe_40 rfl rfl ?_
        show Run _ _ _ _ _ _ [_, _, _, _] _ _ _
        first | refine Run.iinc_n d_Rf_mayBe_41 ic_1 rfl rfl ?_ | refine Run.iinc d_Rf_mayBe_41 rfl rfl rfl ?_
        show Run _ _ _ _ _ _ [_, _, _, _] _ _ _
        refine Run.goto d_Rf_mayBe_44 ?_
        first
        | (refine run_cg ?_ (ih c9); rw [show itN (fitF ta tv (m / 32) (m / 4 % 8) (m % 4)) true (j + 1) = false from (by show fitF _ _ _ _ _ j _ = false; rw [c13]; rfl)]; rfl)
        | (refine run_cg ?_ (ih c9); rw [show itN (fitF ta tv (m / 32) (m / 4 % 8) (m % 4)) true (j + 1) = false from Eq.trans (congrArg (fun z => fitF ta tv (m / 32) (m / 4 % 8) (m % 4) j z) c13) (decide_eq_false c32)]; rfl)
        | (refine run_cg ?_ (ih c9); rw [show itN (fitF ta tv (m / 32) (m / 4 % 8) (m % 4)) true (j + 1) = true from Eq.trans (congrArg (fun z => fitF ta tv (m / 32) (m / 4 % 8) (m % 4) j z) c13) (decide_eq_true c32)]; rfl)
theorem q_Rf_may {F : Nat → Bool} {x : Int32} (hFd : F = fitN ta tv nt) (hnt : nt ≤ 6) (hta : ∀ j, j < nt → fa j = nI (ta j) ∧ ta j < 8) (htv : ∀ j, j < nt → fb j = nI (tv j) ∧ tv j < 6) : Call X (d + 4) 0 0 M_Rf_may [.ref 44, .int x] (PX f0 ++ hM (z1, z2, z3, z4, z5, z6, z7, z8, nI nt, sd, y1, y2, y3, y4) tx ho pi rh rp pg tr bk kp ik fa fb ga gr va rw) (fun r h2 => r = some (.int (mayR F x)) ∧ ∃ a2 b2, h2 = PX f0 ++ hM (z1, z2, z3, z4, z5, z6, z7, z8, nI nt, sd, a2, b2, y3, y4) tx ho pi rh rp pg tr bk kp ik fa fb ga gr va rw) := by
  show Run X (d + 4) 0 0 M_Rf_may 0 [some (.ref 44), some (.int x), none, none] [] _ _
  have key : ∀ j, j < 2 → x = nI j → Run X (d + 4) 0 0 M_Rf_may 31 [some (.ref 44), some (.int x), some (.int (nI 0)), none] [] (PX f0 ++ hM (z1, z2, z3, z4, z5, z6, z7, z8, nI nt, sd, (nI 0), (-9), y3, y4) tx ho pi rh rp pg tr bk kp ik fa fb ga gr va rw) (fun r h2 => r = some (.int (mayR F x)) ∧ ∃ a2 b2, h2 = PX f0 ++ hM (z1, z2, z3, z4, z5, z6, z7, z8, nI nt, sd, a2, b2, y3, y4) tx ho pi rh rp pg tr bk kp ik fa fb ga gr va rw) := by
    intro w hw hx
    have hR0 : w = 0 → mayR F x = nI (cntU F 160) := fun e => by rw [hx, e, mayR, swN_in (by omega) (by omega)]; generalize cntU F 160 = z8; rfl
    have hR1 : w = 1 → mayR F x = firU F 160 := fun e => by rw [hx, e, mayR, swN_in (by omega) (by omega)]; generalize firU F 160 = z8; rfl
    generalize mayR F x = R0 at hR0 hR1 ⊢
    subst hx
    refine upto 160 (fun m => ∀ (u : Nat) (v : Int32) v3, u = cntU F m → v = firU F m → Run X (d + 4) 0 0 M_Rf_may 31 [some (.ref 44), some (.int (nI w)), some (.int (nI m)), v3] [] (PX f0 ++ hM (z1, z2, z3, z4, z5, z6, z7, z8, nI nt, sd, (nI u), v, y3, y4) tx ho pi rh rp pg tr bk kp ik fa fb ga gr va rw) (fun r h2 => r = some (.int R0) ∧ ∃ a2 b2, h2 = PX f0 ++ hM (z1, z2, z3, z4, z5, z6, z7, z8, nI nt, sd, a2, b2, y3, y4) tx ho pi rh rp pg tr bk kp ik fa fb ga gr va rw)) ?_ 0 (Nat.zero_le _) 0 (-9) none rfl rfl
    intro m hm ih u v v3 hu hv
    have wc := cntU_le F m
    rw [← hu] at wc
    have e1 : F m = true → cntU F (m + 1) = u + 1 := fun q => by rw [cntU_s, if_pos q, hu]
    have e2 : F m = false → cntU F (m + 1) = u := fun q => by rw [cntU_s, if_neg (by rw [q]; decide), hu]
    have e3 : F m = false → firU F (m + 1) = v := fun q => by rw [fir_s, if_neg (fun z => by rw [q] at z; cases z.1), hv]
    have e4 : F m = true → u = 0 → firU F (m + 1) = nI (100 * (m / 32) + 10 * (m / 4 % 8) + m % 4) := fun q1 q2 => by rw [fir_s, if_pos ⟨q1, by rw [← hu]; exact q2⟩]; rfl
    have e5 : F m = true → ¬ u = 0 → firU F (m + 1) = v := fun q1 q2 => by rw [fir_s, if_neg (fun z => q2 (by rw [hu]; exact z.2)), hv]
    have e6 : m = 160 → R0 = if w = 0 then nI u else v := fun e => by
      rcases (show w = 0 ∨ w = 1 by omega) with h | h
      · rw [hR0 h, if_pos h, hu, e]
      · rw [hR1 h, if_neg (by omega), hv, e]
    have ih2 : m < 160 → ∀ (u : Nat) (v : Int32) v3, cntU F (m + 1) = u → firU F (m + 1) = v → Run X (d + 4) 0 0 M_Rf_may 31 [some (.ref 44), some (.int (nI w)), some (.int (nI (m + 1))), v3] [] (PX f0 ++ hM (z1, z2, z3, z4, z5, z6, z7, z8, nI nt, sd, (nI u), v, y3, y4) tx ho pi rh rp pg tr bk kp ik fa fb ga gr va rw) (fun r h2 => r = some (.int R0) ∧ ∃ a2 b2, h2 = PX f0 ++ hM (z1, z2, z3, z4, z5, z6, z7, z8, nI nt, sd, a2, b2, y3, y4) tx ho pi rh rp pg tr bk kp ik fa fb ga gr va rw) := fun q u v v3 q1 q2 => ih q u v v3 q1.symm q2.symm
    have h160 : m = m := rfl
    generalize cntU F (m + 1) = cu at e1 e2 ih2
    generalize firU F (m + 1) = fu at e3 e4 e5 ih2
    generalize hFm : F m = bF at e1 e2 e3 e4 e5
    refine Run.iload_n d_Rf_may_31 rfl ?_
    refine Run.sipush (v := nI 160) d_Rf_may_32 sp_160 ?_
    first | refine Run.icmp_ge_n d_Rf_may_35 (by omega) (by omega) (fun c35 => ?_) (fun c35 => ?_) | refine Run.icmp_ge d_Rf_may_35 (fun c35 => ?_) (fun c35 => ?_)
    · refine Run.iload_n d_Rf_may_111 rfl ?_
      first | refine Run.if_ne_b d_Rf_may_112 (fun c112 => ?_) (fun c112 => ?_) | refine Run.if_ne_n d_Rf_may_112 (by omega) (fun c112 => ?_) (fun c112 => ?_) | refine Run.if_ne d_Rf_may_112 (fun c112 => ?_) (fun c112 => ?_)
      · refine Run.aload_n d_Rf_may_122 rfl ?_
        refine Run.getf d_Rf_may_123 fl_Rf_225 (by first | rfl | assumption) (by rfl) ?_
        refine Run.iret d_Rf_may_126 rfl rfl ?_
        refine ⟨?_, _, _, rfl⟩
        rw [e6 (by omega)]
        first | rw [if_pos c112] | rw [if_neg c112]
      · refine Run.aload_n d_Rf_may_115 rfl ?_
        refine Run.getf d_Rf_may_116 fl_Rf_222 (by first | rfl | assumption) (by rfl) ?_
        refine Run.goto d_Rf_may_119 ?_
        refine Run.iret d_Rf_may_126 rfl rfl ?_
        refine ⟨?_, _, _, rfl⟩
        rw [e6 (by omega)]
        first | rw [if_pos c112] | rw [if_neg c112]
    · refine Run.aload_n d_Rf_may_38 rfl ?_
      refine Run.iload_n d_Rf_may_39 rfl ?_
      refine Run.V1r d_Rf_may_40 lk_Rf_228 cm_Rf_mayBe iv_Rf_mayBe rfl (by first | rfl | assumption) (Nat.le_of_ble_eq_true rfl) (Nat.le_of_ble_eq_true rfl) (c_Rf_mayBe c35 hnt hta htv) ?_
      rw [← hFd, hFm]
      refine Run.istore_n d_Rf_may_43 rfl rfl ?_
      show Run _ _ _ _ _ _ [_, _, _, _] _ _ _
      refine Run.aload_n d_Rf_may_44 rfl ?_
      refine Run.iload_n d_Rf_may_45 rfl ?_
      first | refine Run.if_eq_b d_Rf_may_46 (fun c46 => ?_) (fun c46 => ?_) | refine Run.if_eq_n d_Rf_may_46 (by omega) (fun c46 => ?_) (fun c46 => ?_) | refine Run.if_eq d_Rf_may_46 (fun c46 => ?_) (fun c46 => ?_)
      · subst c46
        refine Run.aload_n d_Rf_may_80 rfl ?_
        refine Run.getf d_Rf_may_81 fl_Rf_225 (by first | rfl | assumption) (by rfl) ?_
        refine Run.putf d_Rf_may_84 fl_Rf_225 (fun _ => rfl) (fun _ => rfl) (by first | rfl | assumption) (by exact Nat.le_of_ble_eq_true rfl) ?_
        refine Run.aload_n d_Rf_may_87 rfl ?_
        refine Run.dup d_Rf_may_88 rfl ?_
        refine Run.getf d_Rf_may_89 fl_Rf_222 (by first | rfl | assumption) (by rfl) ?_
        refine Run.iload_n d_Rf_may_92 rfl ?_
        first | refine Run.if_eq_b d_Rf_may_93 (fun c93 => ?_) (fun c93 => ?_) | refine Run.if_eq_n d_Rf_may_93 (by omega) (fun c93 => ?_) (fun c93 => ?_) | refine Run.if_eq d_Rf_may_93 (fun c93 => ?_) (fun c93 => ?_)
        · refine Run.iconst (v := nI 0) d_Rf_may_100 ic_0 ?_
          first | refine Run.iadd_n d_Rf_may_101 ?_ | refine Run.iadd d_Rf_may_101 ?_
          refine Run.putf d_Rf_may_102 fl_Rf_222 (fun _ => rfl) (fun _ => rfl) (by first | rfl | assumption) (by exact Nat.le_of_ble_eq_true rfl) ?_
          first | refine Run.iinc_n d_Rf_may_105 ic_1 rfl rfl ?_ | refine Run.iinc d_Rf_may_105 rfl rfl rfl ?_
          show Run _ _ _ _ _ _ [_, _, _, _] _ _ _
          refine Run.goto d_Rf_may_108 ?_
          first
          | (cases c93; done)
          | (have q1 := e2 rfl; have q2 := e3 rfl; exact ih2 c35 u v _ q1 q2)
          | (have q1 := e1 rfl; have q2 := e4 rfl c53; exact ih2 c35 (u + 1) _ _ q1 q2)
          | (have q1 := e1 rfl; have q2 := e5 rfl c53; exact ih2 c35 (u + 1) v _ q1 q2)
        · refine Run.iconst (v := nI 1) d_Rf_may_96 ic_1 ?_
          refine Run.goto d_Rf_may_97 ?_
          first | refine Run.iadd_n d_Rf_may_101 ?_ | refine Run.iadd d_Rf_may_101 ?_
          refine Run.putf d_Rf_may_102 fl_Rf_222 (fun _ => rfl) (fun _ => rfl) (by first | rfl | assumption) (by exact Nat.le_of_ble_eq_true rfl) ?_
          first | refine Run.iinc_n d_Rf_may_105 ic_1 rfl rfl ?_ | refine Run.iinc d_Rf_may_105 rfl rfl rfl ?_
          show Run _ _ _ _ _ _ [_, _, _, _] _ _ _
          refine Run.goto d_Rf_may_108 ?_
          first
          | (cases c93; done)
          | (have q1 := e2 rfl; have q2 := e3 rfl; exact ih2 c35 u v _ q1 q2)
          | (have q1 := e1 rfl; have q2 := e4 rfl c53; exact ih2 c35 (u + 1) _ _ q1 q2)
          | (have q1 := e1 rfl; have q2 := e5 rfl c53; exact ih2 c35 (u + 1) v _ q1 q2)
      · subst c46
        refine Run.aload_n d_Rf_may_49 rfl ?_
        refine Run.getf d_Rf_may_50 fl_Rf_222 (by first | rfl | assumption) (by rfl) ?_
        first | refine Run.if_ne_b d_Rf_may_53 (fun c53 => ?_) (fun c53 => ?_) | refine Run.if_ne_n d_Rf_may_53 (by omega) (fun c53 => ?_) (fun c53 => ?_) | refine Run.if_ne d_Rf_may_53 (fun c53 => ?_) (fun c53 => ?_)
        · refine Run.aload_n d_Rf_may_80 rfl ?_
          refine Run.getf d_Rf_may_81 fl_Rf_225 (by first | rfl | assumption) (by rfl) ?_
          refine Run.putf d_Rf_may_84 fl_Rf_225 (fun _ => rfl) (fun _ => rfl) (by first | rfl | assumption) (by exact Nat.le_of_ble_eq_true rfl) ?_
          refine Run.aload_n d_Rf_may_87 rfl ?_
          refine Run.dup d_Rf_may_88 rfl ?_
          refine Run.getf d_Rf_may_89 fl_Rf_222 (by first | rfl | assumption) (by rfl) ?_
          refine Run.iload_n d_Rf_may_92 rfl ?_
          first | refine Run.if_eq_b d_Rf_may_93 (fun c93 => ?_) (fun c93 => ?_) | refine Run.if_eq_n d_Rf_may_93 (by omega) (fun c93 => ?_) (fun c93 => ?_) | refine Run.if_eq d_Rf_may_93 (fun c93 => ?_) (fun c93 => ?_)
          · refine Run.iconst (v := nI 0) d_Rf_may_100 ic_0 ?_
            first | refine Run.iadd_n d_Rf_may_101 ?_ | refine Run.iadd d_Rf_may_101 ?_
            refine Run.putf d_Rf_may_102 fl_Rf_222 (fun _ => rfl) (fun _ => rfl) (by first | rfl | assumption) (by exact Nat.le_of_ble_eq_true rfl) ?_
            first | refine Run.iinc_n d_Rf_may_105 ic_1 rfl rfl ?_ | refine Run.iinc d_Rf_may_105 rfl rfl rfl ?_
            show Run _ _ _ _ _ _ [_, _, _, _] _ _ _
            refine Run.goto d_Rf_may_108 ?_
            first
            | (cases c93; done)
            | (have q1 := e2 rfl; have q2 := e3 rfl; exact ih2 c35 u v _ q1 q2)
            | (have q1 := e1 rfl; have q2 := e4 rfl c53; exact ih2 c35 (u + 1) _ _ q1 q2)
            | (have q1 := e1 rfl; have q2 := e5 rfl c53; exact ih2 c35 (u + 1) v _ q1 q2)
          · refine Run.iconst (v := nI 1) d_Rf_may_96 ic_1 ?_
            refine Run.goto d_Rf_may_97 ?_
            first | refine Run.iadd_n d_Rf_may_101 ?_ | refine Run.iadd d_Rf_may_101 ?_
            refine Run.putf d_Rf_may_102 fl_Rf_222 (fun _ => rfl) (fun _ => rfl) (by first | rfl | assumption) (by exact Nat.le_of_ble_eq_true rfl) ?_
            first | refine Run.iinc_n d_Rf_may_105 ic_1 rfl rfl ?_ | refine Run.iinc d_Rf_may_105 rfl rfl rfl ?_
            show Run _ _ _ _ _ _ [_, _, _, _] _ _ _
            refine Run.goto d_Rf_may_108 ?_
            first
            | (cases c93; done)
            | (have q1 := e2 rfl; have q2 := e3 rfl; exact ih2 c35 u v _ q1 q2)
            | (have q1 := e1 rfl; have q2 := e4 rfl c53; exact ih2 c35 (u + 1) _ _ q1 q2)
            | (have q1 := e1 rfl; have q2 := e5 rfl c53; exact ih2 c35 (u + 1) v _ q1 q2)
        · refine Run.bipush (v := nI 100) d_Rf_may_56 bp_100 ?_
          refine Run.iload_n d_Rf_may_58 rfl ?_
          refine Run.bipush (v := nI 32) d_Rf_may_59 bp_32 ?_
          first | refine Run.idiv_n d_Rf_may_61 (by omega) (by omega) (by omega) ?_ | refine Run.idiv d_Rf_may_61 (by decide +kernel) ?_
          first | refine Run.imul_n d_Rf_may_62 ?_ | refine Run.imul d_Rf_may_62 ?_
          refine Run.bipush (v := nI 10) d_Rf_may_63 bp_10 ?_
          refine Run.iload_n d_Rf_may_65 rfl ?_
          refine Run.iconst (v := nI 4) d_Rf_may_66 ic_4 ?_
          first | refine Run.idiv_n d_Rf_may_67 (by omega) (by omega) (by omega) ?_ | refine Run.idiv d_Rf_may_67 (by decide +kernel) ?_
          refine Run.bipush (v := nI 8) d_Rf_may_68 bp_8 ?_
          first | refine Run.irem_n d_Rf_may_70 (by omega) (by omega) (by omega) ?_ | refine Run.irem d_Rf_may_70 (by decide +kernel) ?_
          first | refine Run.imul_n d_Rf_may_71 ?_ | refine Run.imul d_Rf_may_71 ?_
          first | refine Run.iadd_n d_Rf_may_72 ?_ | refine Run.iadd d_Rf_may_72 ?_
          refine Run.iload_n d_Rf_may_73 rfl ?_
          refine Run.iconst (v := nI 4) d_Rf_may_74 ic_4 ?_
          first | refine Run.irem_n d_Rf_may_75 (by omega) (by omega) (by omega) ?_ | refine Run.irem d_Rf_may_75 (by decide +kernel) ?_
          first | refine Run.iadd_n d_Rf_may_76 ?_ | refine Run.iadd d_Rf_may_76 ?_
          refine Run.goto d_Rf_may_77 ?_
          refine Run.putf d_Rf_may_84 fl_Rf_225 (fun _ => rfl) (fun _ => rfl) (by first | rfl | assumption) (by exact Nat.le_of_ble_eq_true rfl) ?_
          refine Run.aload_n d_Rf_may_87 rfl ?_
          refine Run.dup d_Rf_may_88 rfl ?_
          refine Run.getf d_Rf_may_89 fl_Rf_222 (by first | rfl | assumption) (by rfl) ?_
          refine Run.iload_n d_Rf_may_92 rfl ?_
          first | refine Run.if_eq_b d_Rf_may_93 (fun c93 => ?_) (fun c93 => ?_) | refine Run.if_eq_n d_Rf_may_93 (by omega) (fun c93 => ?_) (fun c93 => ?_) | refine Run.if_eq d_Rf_may_93 (fun c93 => ?_) (fun c93 => ?_)
          · refine Run.iconst (v := nI 0) d_Rf_may_100 ic_0 ?_
            first | refine Run.iadd_n d_Rf_may_101 ?_ | refine Run.iadd d_Rf_may_101 ?_
            refine Run.putf d_Rf_may_102 fl_Rf_222 (fun _ => rfl) (fun _ => rfl) (by first | rfl | assumption) (by exact Nat.le_of_ble_eq_true rfl) ?_
            first | refine Run.iinc_n d_Rf_may_105 ic_1 rfl rfl ?_ | refine Run.iinc d_Rf_may_105 rfl rfl rfl ?_
            show Run _ _ _ _ _ _ [_, _, _, _] _ _ _
            refine Run.goto d_Rf_may_108 ?_
            first
            | (cases c93; done)
            | (have q1 := e2 rfl; have q2 := e3 rfl; exact ih2 c35 u v _ q1 q2)
            | (have q1 := e1 rfl; have q2 := e4 rfl c53; exact ih2 c35 (u + 1) _ _ q1 q2)
            | (have q1 := e1 rfl; have q2 := e5 rfl c53; exact ih2 c35 (u + 1) v _ q1 q2)
          · refine Run.iconst (v := nI 1) d_Rf_may_96 ic_1 ?_
            refine Run.goto d_Rf_may_97 ?_
            first | refine Run.iadd_n d_Rf_may_101 ?_ | refine Run.iadd d_Rf_may_101 ?_
            refine Run.putf d_Rf_may_102 fl_Rf_222 (fun _ => rfl) (fun _ => rfl) (by first | rfl | assumption) (by exact Nat.le_of_ble_eq_true rfl) ?_
            first | refine Run.iinc_n d_Rf_may_105 ic_1 rfl rfl ?_ | refine Run.iinc d_Rf_may_105 rfl rfl rfl ?_
            show Run _ _ _ _ _ _ [_, _, _, _] _ _ _
            refine Run.goto d_Rf_may_108 ?_
            first
            | (cases c93; done)
            | (have q1 := e2 rfl; have q2 := e3 rfl; exact ih2 c35 u v _ q1 q2)
            | (have q1 := e1 rfl; have q2 := e4 rfl c53; exact ih2 c35 (u + 1) _ _ q1 q2)
            | (have q1 := e1 rfl; have q2 := e5 rfl c53; exact ih2 c35 (u + 1) v _ q1 q2)
  refine Run.aload_n d_Rf_may_0 rfl ?_
  refine Run.iconst (v := nI 0) d_Rf_may_1 ic_0 ?_
  refine Run.putf d_Rf_may_2 fl_Rf_59 (fun _ => rfl) (fun _ => rfl) (by first | rfl | assumption) (by exact Nat.le_of_ble_eq_true rfl) ?_
  refine run_hp (show _ = PX f0 ++ hM (z1, z2, z3, z4, z5, z6, z7, z8, nI nt, sd, y1, y2, y3, y4) tx ho pi rh rp pg tr bk kp ik fa fb ga gr va rw from rfl) ?_
  refine Run.iload_n d_Rf_may_5 rfl ?_
  refine Run.i2l d_Rf_may_6 ?_
  refine Run.lconst (v := 0) d_Rf_may_7 rfl ?_
  refine Run.lconst (v := 1) d_Rf_may_8 rfl ?_
  refine Run.S3r d_Rf_may_9 lk_Rf_66 cm_Rf_in st_Rf_in (Nat.le_of_ble_eq_true rfl) (Nat.le_of_ble_eq_true rfl) (c_Rf_in) ?_
  rw [in_B (n := 2) (by omega) (by decide +kernel)]
  first | refine Run.if_ne_b d_Rf_may_12 (fun c12 => ?_) (fun c12 => ?_) | refine Run.if_ne_n d_Rf_may_12 (by omega) (fun c12 => ?_) (fun c12 => ?_) | refine Run.if_ne d_Rf_may_12 (fun c12 => ?_) (fun c12 => ?_)
  · obtain ⟨w, hw, hx⟩ := inB_t (n := 2) (by omega) c12
    refine Run.aload_n d_Rf_may_18 rfl ?_
    refine Run.iconst (v := nI 0) d_Rf_may_19 ic_0 ?_
    refine Run.putf d_Rf_may_20 fl_Rf_222 (fun _ => rfl) (fun _ => rfl) (by first | rfl | assumption) (by exact Nat.le_of_ble_eq_true rfl) ?_
    refine Run.aload_n d_Rf_may_23 rfl ?_
    refine Run.bipush (v := -9) d_Rf_may_24 bp_m9 ?_
    refine Run.putf d_Rf_may_26 fl_Rf_225 (fun _ => rfl) (fun _ => rfl) (by first | rfl | assumption) (by exact Nat.le_of_ble_eq_true rfl) ?_
    refine Run.iconst (v := nI 0) d_Rf_may_29 ic_0 ?_
    refine Run.istore_n d_Rf_may_30 rfl rfl ?_
    show Run _ _ _ _ _ _ [_, _, _, _] _ _ _
    exact key w hw hx
  · refine Run.bipush (v := -2) d_Rf_may_15 bp_m2 ?_
    refine Run.iret d_Rf_may_17 rfl rfl ?_
    exact ⟨by rw [mayR, swN, c12]; rfl, y1, y2, rfl⟩
theorem c_Rf_greatest {F : Nat → Bool} {g : Nat} (hFd : F = fitN ta tv nt) (hg : g < 8) (hnt : nt ≤ 6) (hta : ∀ j, j < nt → fa j = nI (ta j) ∧ ta j < 8) (htv : ∀ j, j < nt → fb j = nI (tv j) ∧ tv j < 6) : Call X (d + 4) 0 0 M_Rf_greatest [.ref 44, .int (nI g)] (PX f0 ++ hM (z1, z2, z3, z4, z5, z6, z7, z8, nI nt, sd, y1, y2, y3, y4) tx ho pi rh rp pg tr bk kp ik fa fb ga gr va rw) (fun r h2 => r = some (.int (nI (grtN F g))) ∧ ∃ gr2, h2 = PX f0 ++ hM (z1, z2, z3, z4, z5, z6, z7, z8, nI nt, sd, y1, y2, y3, y4) tx ho pi rh rp pg tr bk kp ik fa fb ga gr2 va rw) := by
  show Run X (d + 4) 0 0 M_Rf_greatest 0 [some (.ref 44), some (.int (nI g)), none, none, none] [] _ _
  have key : ∀ gr2 : FI, (∀ j, j < 6 → gr2 j = nI 0) → Run X (d + 4) 0 0 M_Rf_greatest 25 [some (.ref 44), some (.int (nI g)), some (.int (nI 0)), some (.int (nI 0)), none] [] (PX f0 ++ hM (z1, z2, z3, z4, z5, z6, z7, z8, nI nt, sd, y1, y2, y3, y4) tx ho pi rh rp pg tr bk kp ik fa fb ga gr2 va rw) (fun r h2 => r = some (.int (nI (grtN F g))) ∧ ∃ gr2, h2 = PX f0 ++ hM (z1, z2, z3, z4, z5, z6, z7, z8, nI nt, sd, y1, y2, y3, y4) tx ho pi rh rp pg tr bk kp ik fa fb ga gr2 va rw) := by
    intro gr2 hg2
    have hmx : grtN F g = mx6 (fun a => alU F g a 160) := rfl
    generalize grtN F g = G0 at hmx ⊢
    refine upto 160 (fun m => ∀ (gr2 : FI) (mo : Nat) (v4 : Option Value), (∀ a, a < 6 → gr2 a = nI (alU F g a m)) → mo = mx6 (fun a => alU F g a m) → Run X (d + 4) 0 0 M_Rf_greatest 25 [some (.ref 44), some (.int (nI g)), some (.int (nI mo)), some (.int (nI m)), v4] [] (PX f0 ++ hM (z1, z2, z3, z4, z5, z6, z7, z8, nI nt, sd, y1, y2, y3, y4) tx ho pi rh rp pg tr bk kp ik fa fb ga gr2 va rw) (fun r h2 => r = some (.int (nI G0)) ∧ ∃ gr2, h2 = PX f0 ++ hM (z1, z2, z3, z4, z5, z6, z7, z8, nI nt, sd, y1, y2, y3, y4) tx ho pi rh rp pg tr bk kp ik fa fb ga gr2 va rw)) ?_ 0 (Nat.zero_le _) gr2 0 none hg2 rfl
    intro m hm ih gr2 mo v4 he hmo
    have w1 : mo ≤ 160 := by
      rw [hmo]
      exact mx6_le 6 (fun a _ => Nat.le_trans (alU_le F g a m) (Nat.le_trans (cntU_le F m) hm))
    have hal : alU F g (ansN m g) m ≤ m := Nat.le_trans (alU_le F g _ m) (cntU_le F m)
    have ihF : m < 160 → F m = false → Run X (d + 4) 0 0 M_Rf_greatest 25 [some (.ref 44), some (.int (nI g)), some (.int (nI mo)), some (.int (nI (m + 1))), v4] [] (PX f0 ++ hM (z1, z2, z3, z4, z5, z6, z7, z8, nI nt, sd, y1, y2, y3, y4) tx ho pi rh rp pg tr bk kp ik fa fb ga gr2 va rw) (fun r h2 => r = some (.int (nI G0)) ∧ ∃ gr2, h2 = PX f0 ++ hM (z1, z2, z3, z4, z5, z6, z7, z8, nI nt, sd, y1, y2, y3, y4) tx ho pi rh rp pg tr bk kp ik fa fb ga gr2 va rw) := fun q1 q2 => by
      have e1 : ∀ a, alU F g a (m + 1) = alU F g a m := fun a => by rw [alU_s, if_neg (fun z => by rw [q2] at z; cases z.1)]
      refine ih q1 gr2 mo v4 (fun a ha => by rw [e1]; exact he a ha) ?_
      rw [hmo]
      congr 1
      funext a
      exact (e1 a).symm
    have ihT : ∀ (c29 : m < 160) (mo2 : Nat), F m = true → mo2 = (if mo < alU F g (ansN m g) m + 1 then alU F g (ansN m g) m + 1 else mo) → Run X (d + 4) 0 0 M_Rf_greatest 25 [some (.ref 44), some (.int (nI g)), some (.int (nI mo2)), some (.int (nI (m + 1))), some (.int (nI (ansN m g)))] [] (PX f0 ++ hM (z1, z2, z3, z4, z5, z6, z7, z8, nI nt, sd, y1, y2, y3, y4) tx ho pi rh rp pg tr bk kp ik fa fb ga (upd gr2 (ansN m g) (nI (alU F g (ansN m g) m + 1))) va rw) (fun r h2 => r = some (.int (nI G0)) ∧ ∃ gr2, h2 = PX f0 ++ hM (z1, z2, z3, z4, z5, z6, z7, z8, nI nt, sd, y1, y2, y3, y4) tx ho pi rh rp pg tr bk kp ik fa fb ga gr2 va rw) := fun q1 mo2 q2 q3 => by
      refine ih q1 _ mo2 _ (fun a ha => ?_) ?_
      · by_cases h : a = ansN m g
        · subst h; rw [pk_us, alU_s, if_pos ⟨q2, rfl⟩]
        · rw [pk_un h, alU_s, if_neg (fun z => h z.2.symm)]; exact he a ha
      · rw [q3, hmo]
        exact (mx6_u (f := fun a => alU F g a m) (f' := fun a => alU F g a (m + 1)) (a0 := ansN m g) (ansN_lt q1) (by show alU F g _ (m + 1) = _; rw [alU_s, if_pos ⟨q2, rfl⟩]) (fun a ha => by show alU F g a (m + 1) = _; rw [alU_s, if_neg (fun z => ha z.2.symm)])).symm
    refine Run.iload_n d_Rf_greatest_25 rfl ?_
    refine Run.sipush (v := nI 160) d_Rf_greatest_26 sp_160 ?_
    first | refine Run.icmp_ge_n d_Rf_greatest_29 (by omega) (by omega) (fun c29 => ?_) (fun c29 => ?_) | refine Run.icmp_ge d_Rf_greatest_29 (fun c29 => ?_) (fun c29 => ?_)
    · refine Run.iload_n d_Rf_greatest_87 rfl ?_
      refine Run.iret d_Rf_greatest_88 rfl rfl ?_
      exact ⟨by rw [hmx, hmo, show m = 160 by omega], gr2, rfl⟩
    · refine Run.aload_n d_Rf_greatest_32 rfl ?_
      refine Run.iload_n d_Rf_greatest_33 rfl ?_
      refine Run.V1r d_Rf_greatest_34 lk_Rf_228 cm_Rf_mayBe iv_Rf_mayBe rfl (by first | rfl | assumption) (Nat.le_of_ble_eq_true rfl) (Nat.le_of_ble_eq_true rfl) (c_Rf_mayBe c29 hnt hta htv) ?_
      rw [← hFd]
      first | refine Run.if_eq_b d_Rf_greatest_37 (fun c37 => ?_) (fun c37 => ?_) | refine Run.if_eq_n d_Rf_greatest_37 (by omega) (fun c37 => ?_) (fun c37 => ?_) | refine Run.if_eq d_Rf_greatest_37 (fun c37 => ?_) (fun c37 => ?_)
      · first | refine Run.iinc_n d_Rf_greatest_81 ic_1 rfl rfl ?_ | refine Run.iinc d_Rf_greatest_81 rfl rfl rfl ?_
        show Run _ _ _ _ _ _ [_, _, _, _, _] _ _ _
        refine Run.goto d_Rf_greatest_84 ?_
        first
        | (have q1 := ihF c29 c37; exact q1)
        | (have q1 := ihT c29 _ c37 (if_pos (by omega)).symm; exact q1)
        | (have q1 := ihT c29 _ c37 (if_neg (by omega)).symm; exact q1)
      · refine Run.iload_n d_Rf_greatest_40 rfl ?_
        refine Run.iload_n d_Rf_greatest_41 rfl ?_
        refine Run.S2r d_Rf_greatest_42 lk_Rf_219 cm_Rf_answer st_Rf_answer (Nat.le_of_ble_eq_true rfl) (Nat.le_of_ble_eq_true rfl) (c_Rf_answer c29 hg) ?_
        have w2 := ansN_lt (g := g) c29
        have e9 := he (ansN m g) w2
        generalize alU F g (ansN m g) m = A at e9 hal ihT
        generalize ansN m g = N at w2 e9 ihT ⊢
        refine Run.istore d_Rf_greatest_45 rfl rfl ?_
        show Run _ _ _ _ _ _ [_, _, _, _, _] _ _ _
        refine Run.aload_n d_Rf_greatest_47 rfl ?_
        refine Run.getf d_Rf_greatest_48 fl_Rf_50 (by first | rfl | assumption) (by rfl) ?_
        refine Run.iload d_Rf_greatest_51 rfl ?_
        refine Run.dup2 d_Rf_greatest_53 rfl rfl ?_
        refine Run.iald_n d_Rf_greatest_54 (by first | rfl | assumption) (by omega) (by omega) ?_
        rw [e9]
        refine Run.iconst (v := nI 1) d_Rf_greatest_55 ic_1 ?_
        first | refine Run.iadd_n d_Rf_greatest_56 ?_ | refine Run.iadd d_Rf_greatest_56 ?_
        refine Run.iast_n d_Rf_greatest_57 (by first | rfl | assumption) (by omega) (by omega) ?_
        refine Run.aload_n d_Rf_greatest_58 rfl ?_
        refine Run.getf d_Rf_greatest_59 fl_Rf_50 (by first | rfl | assumption) (by rfl) ?_
        refine Run.iload d_Rf_greatest_62 rfl ?_
        refine Run.iald_n d_Rf_greatest_64 (by first | rfl | assumption) (by omega) (by omega) ?_
        rw [pk_us]
        refine Run.iload_n d_Rf_greatest_65 rfl ?_
        first | refine Run.icmp_le_n d_Rf_greatest_66 (by omega) (by omega) (fun c66 => ?_) (fun c66 => ?_) | refine Run.icmp_le d_Rf_greatest_66 (fun c66 => ?_) (fun c66 => ?_)
        · refine Run.iload_n d_Rf_greatest_79 rfl ?_
          refine Run.istore_n d_Rf_greatest_80 rfl rfl ?_
          show Run _ _ _ _ _ _ [_, _, _, _, _] _ _ _
          first | refine Run.iinc_n d_Rf_greatest_81 ic_1 rfl rfl ?_ | refine Run.iinc d_Rf_greatest_81 rfl rfl rfl ?_
          show Run _ _ _ _ _ _ [_, _, _, _, _] _ _ _
          refine Run.goto d_Rf_greatest_84 ?_
          first
          | (have q1 := ihF c29 c37; exact q1)
          | (have q1 := ihT c29 _ c37 (if_pos (by omega)).symm; exact q1)
          | (have q1 := ihT c29 _ c37 (if_neg (by omega)).symm; exact q1)
        · refine Run.aload_n d_Rf_greatest_69 rfl ?_
          refine Run.getf d_Rf_greatest_70 fl_Rf_50 (by first | rfl | assumption) (by rfl) ?_
          refine Run.iload d_Rf_greatest_73 rfl ?_
          refine Run.iald_n d_Rf_greatest_75 (by first | rfl | assumption) (by omega) (by omega) ?_
          rw [pk_us]
          refine Run.goto d_Rf_greatest_76 ?_
          refine Run.istore_n d_Rf_greatest_80 rfl rfl ?_
          show Run _ _ _ _ _ _ [_, _, _, _, _] _ _ _
          first | refine Run.iinc_n d_Rf_greatest_81 ic_1 rfl rfl ?_ | refine Run.iinc d_Rf_greatest_81 rfl rfl rfl ?_
          show Run _ _ _ _ _ _ [_, _, _, _, _] _ _ _
          refine Run.goto d_Rf_greatest_84 ?_
          first
          | (have q1 := ihF c29 c37; exact q1)
          | (have q1 := ihT c29 _ c37 (if_pos (by omega)).symm; exact q1)
          | (have q1 := ihT c29 _ c37 (if_neg (by omega)).symm; exact q1)
  refine Run.iconst (v := nI 0) d_Rf_greatest_0 ic_0 ?_
  refine Run.istore_n d_Rf_greatest_1 rfl rfl ?_
  show Run _ _ _ _ _ _ [_, _, _, _, _] _ _ _
  refine upto 6 (fun i => ∀ gr2 : FI, (∀ j, j < i → gr2 j = nI 0) → Run X (d + 4) 0 0 M_Rf_greatest 2 [some (.ref 44), some (.int (nI g)), some (.int (nI i)), none, none] [] (PX f0 ++ hM (z1, z2, z3, z4, z5, z6, z7, z8, nI nt, sd, y1, y2, y3, y4) tx ho pi rh rp pg tr bk kp ik fa fb ga gr2 va rw) (fun r h2 => r = some (.int (nI (grtN F g))) ∧ ∃ gr2, h2 = PX f0 ++ hM (z1, z2, z3, z4, z5, z6, z7, z8, nI nt, sd, y1, y2, y3, y4) tx ho pi rh rp pg tr bk kp ik fa fb ga gr2 va rw)) ?_ 0 (Nat.zero_le _) gr (fun j hj => by omega)
  intro i hi ih gr2 he
  refine Run.iload_n d_Rf_greatest_2 rfl ?_
  refine Run.bipush (v := nI 6) d_Rf_greatest_3 bp_6 ?_
  first | refine Run.icmp_ge_n d_Rf_greatest_5 (by omega) (by omega) (fun c5 => ?_) (fun c5 => ?_) | refine Run.icmp_ge d_Rf_greatest_5 (fun c5 => ?_) (fun c5 => ?_)
  · refine Run.iconst (v := nI 0) d_Rf_greatest_21 ic_0 ?_
    refine Run.istore_n d_Rf_greatest_22 rfl rfl ?_
    show Run _ _ _ _ _ _ [_, _, _, _, _] _ _ _
    refine Run.iconst (v := nI 0) d_Rf_greatest_23 ic_0 ?_
    refine Run.istore_n d_Rf_greatest_24 rfl rfl ?_
    show Run _ _ _ _ _ _ [_, _, _, _, _] _ _ _
    exact key gr2 (fun j hj => he j (by omega))
  · refine Run.aload_n d_Rf_greatest_8 rfl ?_
    refine Run.getf d_Rf_greatest_9 fl_Rf_50 (by first | rfl | assumption) (by rfl) ?_
    refine Run.iload_n d_Rf_greatest_12 rfl ?_
    refine Run.iconst (v := nI 0) d_Rf_greatest_13 ic_0 ?_
    refine Run.iast_n d_Rf_greatest_14 (by first | rfl | assumption) (by omega) (by omega) ?_
    first | refine Run.iinc_n d_Rf_greatest_15 ic_1 rfl rfl ?_ | refine Run.iinc d_Rf_greatest_15 rfl rfl rfl ?_
    show Run _ _ _ _ _ _ [_, _, _, _, _] _ _ _
    refine Run.goto d_Rf_greatest_18 ?_
    refine ih c5 (upd gr2 i (nI 0)) (fun j hj => ?_)
    by_cases hji : j = i
    · subst hji; exact pk_us
    · rw [pk_un hji]; exact he j (by omega)
theorem q_Rf_next {F : Nat → Bool} (hFd : F = fitN ta tv nt) (hnt : nt ≤ 6) (hta : ∀ j, j < nt → fa j = nI (ta j) ∧ ta j < 8) (htv : ∀ j, j < nt → fb j = nI (tv j) ∧ tv j < 6) : Call X (d + 5) 0 0 M_Rf_next [.ref 44] (PX f0 ++ hM (z1, z2, z3, z4, z5, z6, z7, z8, nI nt, sd, y1, y2, y3, y4) tx ho pi rh rp pg tr bk kp ik fa fb ga gr va rw) (fun r h2 => r = some (.int (oI (nxtN (grtN F)))) ∧ ∃ gr2, h2 = PX f0 ++ hM (z1, z2, z3, z4, z5, z6, z7, z8, nI nt, sd, y1, y2, y3, y4) tx ho pi rh rp pg tr bk kp ik fa fb ga gr2 va rw) := by
  show Run X (d + 5) 0 0 M_Rf_next 0 [some (.ref 44), none, none, none, none] [] _ _
  have key : Run X (d + 5) 0 0 M_Rf_next 13 [some (.ref 44), some (.int (-9)), some (.int (-9)), some (.int (nI 0)), none] [] (PX f0 ++ hM (z1, z2, z3, z4, z5, z6, z7, z8, nI nt, sd, y1, y2, y3, y4) tx ho pi rh rp pg tr bk kp ik fa fb ga gr va rw) (fun r h2 => r = some (.int (oI (nxtN (grtN F)))) ∧ ∃ gr2, h2 = PX f0 ++ hM (z1, z2, z3, z4, z5, z6, z7, z8, nI nt, sd, y1, y2, y3, y4) tx ho pi rh rp pg tr bk kp ik fa fb ga gr2 va rw) := by
    have hn : nxtN (grtN F) = (itN (nxtF (grtN F)) none 8).map (fun q => q.1) := rfl
    have hgl : ∀ g, grtN F g ≤ 160 := fun g => Nat.le_trans (grt_le F g) (cntU_le F 160)
    generalize hN : nxtN (grtN F) = N0 at hn ⊢
    refine upto 8 (fun g => ∀ (b l : Int32) (v4 : Option Value) (gr2 : FI), (itN (nxtF (grtN F)) none g = none ∧ b = -9 ∧ l = -9 ∨ ∃ b0 l0, itN (nxtF (grtN F)) none g = some (b0, l0) ∧ b = nI b0 ∧ l = nI l0) → Run X (d + 5) 0 0 M_Rf_next 13 [some (.ref 44), some (.int b), some (.int l), some (.int (nI g)), v4] [] (PX f0 ++ hM (z1, z2, z3, z4, z5, z6, z7, z8, nI nt, sd, y1, y2, y3, y4) tx ho pi rh rp pg tr bk kp ik fa fb ga gr2 va rw) (fun r h2 => r = some (.int (oI N0)) ∧ ∃ gr2, h2 = PX f0 ++ hM (z1, z2, z3, z4, z5, z6, z7, z8, nI nt, sd, y1, y2, y3, y4) tx ho pi rh rp pg tr bk kp ik fa fb ga gr2 va rw)) ?_ 0 (Nat.zero_le _) _ _ none gr (Or.inl ⟨rfl, rfl, rfl⟩)
    intro g hg ih b l v4 gr2 hI
    have hw := hgl g
    have h24 : ∀ gr2 : FI, g < 8 → Run X (d + 5) 0 0 M_Rf_next 24 [some (.ref 44), some (.int b), some (.int l), some (.int (nI g)), v4] [.int (nI (grtN F g))] (PX f0 ++ hM (z1, z2, z3, z4, z5, z6, z7, z8, nI nt, sd, y1, y2, y3, y4) tx ho pi rh rp pg tr bk kp ik fa fb ga gr2 va rw) (fun r h2 => r = some (.int (oI N0)) ∧ ∃ gr2, h2 = PX f0 ++ hM (z1, z2, z3, z4, z5, z6, z7, z8, nI nt, sd, y1, y2, y3, y4) tx ho pi rh rp pg tr bk kp ik fa fb ga gr2 va rw) := by
      intro gr2 c16
      have hst : ∀ o, itN (nxtF (grtN F)) none g = o → itN (nxtF (grtN F)) none (g + 1) = nxtF (grtN F) g o := fun o ho => by rw [← ho]; rfl
      have hx : ∀ o, nxtF (grtN F) g o = if 0 < grtN F g then (match o with
          | none => some (g, grtN F g)
          | some (b, l) => if grtN F g < l then some (g, grtN F g) else some (b, l)) else o := fun o => rfl
      generalize hGg : grtN F g = Gg at hw hx ⊢
      rcases hI with ⟨h1, rfl, rfl⟩ | ⟨b0, l0, h1, rfl, rfl⟩
      · have hs := hst _ h1
        rw [hx] at hs
        refine Run.istore d_Rf_next_24 rfl rfl ?_
        show Run _ _ _ _ _ _ [_, _, _, _, _] _ _ _
        refine Run.iload d_Rf_next_26 rfl ?_
        first | refine Run.if_le_n d_Rf_next_28 (by omega) (fun c28 => ?_) (fun c28 => ?_) | refine Run.if_le d_Rf_next_28 (fun c28 => ?_) (fun c28 => ?_)
        · first | refine Run.iinc_n d_Rf_next_48 ic_1 rfl rfl ?_ | refine Run.iinc d_Rf_next_48 rfl rfl rfl ?_
          show Run _ _ _ _ _ _ [_, _, _, _, _] _ _ _
          refine Run.goto d_Rf_next_51 ?_
          first
          | (have q1 : itN (nxtF (grtN F)) none (g + 1) = none := by rw [hs, if_neg (by omega)]
             exact ih c16 _ _ _ _ (Or.inl ⟨q1, rfl, rfl⟩))
          | (have q1 : itN (nxtF (grtN F)) none (g + 1) = some (g, Gg) := by rw [hs, if_pos c28]
             exact ih c16 _ _ _ _ (Or.inr ⟨g, Gg, q1, rfl, rfl⟩))
        · refine Run.iload_n d_Rf_next_31 rfl ?_
          refine Run.bipush (v := -9) d_Rf_next_32 bp_m9 ?_
          first | refine Run.icmp_eq_n d_Rf_next_34 (by omega) (by omega) (fun c34 => ?_) (fun c34 => ?_) | refine Run.icmp_eq d_Rf_next_34 (fun c34 => ?_) (fun c34 => ?_)
          · refine Run.iload_n d_Rf_next_43 rfl ?_
            refine Run.istore_n d_Rf_next_44 rfl rfl ?_
            show Run _ _ _ _ _ _ [_, _, _, _, _] _ _ _
            refine Run.iload d_Rf_next_45 rfl ?_
            refine Run.istore_n d_Rf_next_47 rfl rfl ?_
            show Run _ _ _ _ _ _ [_, _, _, _, _] _ _ _
            first | refine Run.iinc_n d_Rf_next_48 ic_1 rfl rfl ?_ | refine Run.iinc d_Rf_next_48 rfl rfl rfl ?_
            show Run _ _ _ _ _ _ [_, _, _, _, _] _ _ _
            refine Run.goto d_Rf_next_51 ?_
            first
            | (have q1 : itN (nxtF (grtN F)) none (g + 1) = none := by rw [hs, if_neg (by omega)]
               exact ih c16 _ _ _ _ (Or.inl ⟨q1, rfl, rfl⟩))
            | (have q1 : itN (nxtF (grtN F)) none (g + 1) = some (g, Gg) := by rw [hs, if_pos c28]
               exact ih c16 _ _ _ _ (Or.inr ⟨g, Gg, q1, rfl, rfl⟩))
          · exact absurd rfl c34
      · have hs := hst _ h1
        rw [hx] at hs
        have w3 := nxt_lt g b0 l0 h1
        have w4 := hgl b0
        rw [← w3.2] at w4
        refine Run.istore d_Rf_next_24 rfl rfl ?_
        show Run _ _ _ _ _ _ [_, _, _, _, _] _ _ _
        refine Run.iload d_Rf_next_26 rfl ?_
        first | refine Run.if_le_n d_Rf_next_28 (by omega) (fun c28 => ?_) (fun c28 => ?_) | refine Run.if_le d_Rf_next_28 (fun c28 => ?_) (fun c28 => ?_)
        · first | refine Run.iinc_n d_Rf_next_48 ic_1 rfl rfl ?_ | refine Run.iinc d_Rf_next_48 rfl rfl rfl ?_
          show Run _ _ _ _ _ _ [_, _, _, _, _] _ _ _
          refine Run.goto d_Rf_next_51 ?_
          first
          | (have q1 : itN (nxtF (grtN F)) none (g + 1) = some (b0, l0) := by rw [hs, if_neg (show ¬ 0 < Gg by omega)]
             exact ih c16 _ _ _ _ (Or.inr ⟨b0, l0, q1, rfl, rfl⟩))
          | (have q2 : Gg < l0 := c40
             have q1 : itN (nxtF (grtN F)) none (g + 1) = some (g, Gg) := by rw [hs, if_pos c28]; exact if_pos q2
             exact ih c16 _ _ _ _ (Or.inr ⟨g, Gg, q1, rfl, rfl⟩))
          | (have q2 : l0 ≤ Gg := c40
             have q1 : itN (nxtF (grtN F)) none (g + 1) = some (b0, l0) := by rw [hs, if_pos c28]; exact if_neg (by omega)
             exact ih c16 _ _ _ _ (Or.inr ⟨b0, l0, q1, rfl, rfl⟩))
        · refine Run.iload_n d_Rf_next_31 rfl ?_
          refine Run.bipush (v := -9) d_Rf_next_32 bp_m9 ?_
          first | refine Run.icmp_eq_n d_Rf_next_34 (by omega) (by omega) (fun c34 => ?_) (fun c34 => ?_) | refine Run.icmp_eq d_Rf_next_34 (fun c34 => ?_) (fun c34 => ?_)
          · exact absurd c34 (nI_n9 (by omega))
          · refine Run.iload d_Rf_next_37 rfl ?_
            refine Run.iload_n d_Rf_next_39 rfl ?_
            first | refine Run.icmp_ge_n d_Rf_next_40 (by omega) (by omega) (fun c40 => ?_) (fun c40 => ?_) | refine Run.icmp_ge d_Rf_next_40 (fun c40 => ?_) (fun c40 => ?_)
            · first | refine Run.iinc_n d_Rf_next_48 ic_1 rfl rfl ?_ | refine Run.iinc d_Rf_next_48 rfl rfl rfl ?_
              show Run _ _ _ _ _ _ [_, _, _, _, _] _ _ _
              refine Run.goto d_Rf_next_51 ?_
              first
              | (have q1 : itN (nxtF (grtN F)) none (g + 1) = some (b0, l0) := by rw [hs, if_neg (show ¬ 0 < Gg by omega)]
                 exact ih c16 _ _ _ _ (Or.inr ⟨b0, l0, q1, rfl, rfl⟩))
              | (have q2 : Gg < l0 := c40
                 have q1 : itN (nxtF (grtN F)) none (g + 1) = some (g, Gg) := by rw [hs, if_pos c28]; exact if_pos q2
                 exact ih c16 _ _ _ _ (Or.inr ⟨g, Gg, q1, rfl, rfl⟩))
              | (have q2 : l0 ≤ Gg := c40
                 have q1 : itN (nxtF (grtN F)) none (g + 1) = some (b0, l0) := by rw [hs, if_pos c28]; exact if_neg (by omega)
                 exact ih c16 _ _ _ _ (Or.inr ⟨b0, l0, q1, rfl, rfl⟩))
            · refine Run.iload_n d_Rf_next_43 rfl ?_
              refine Run.istore_n d_Rf_next_44 rfl rfl ?_
              show Run _ _ _ _ _ _ [_, _, _, _, _] _ _ _
              refine Run.iload d_Rf_next_45 rfl ?_
              refine Run.istore_n d_Rf_next_47 rfl rfl ?_
              show Run _ _ _ _ _ _ [_, _, _, _, _] _ _ _
              first | refine Run.iinc_n d_Rf_next_48 ic_1 rfl rfl ?_ | refine Run.iinc d_Rf_next_48 rfl rfl rfl ?_
              show Run _ _ _ _ _ _ [_, _, _, _, _] _ _ _
              refine Run.goto d_Rf_next_51 ?_
              first
              | (have q1 : itN (nxtF (grtN F)) none (g + 1) = some (b0, l0) := by rw [hs, if_neg (show ¬ 0 < Gg by omega)]
                 exact ih c16 _ _ _ _ (Or.inr ⟨b0, l0, q1, rfl, rfl⟩))
              | (have q2 : Gg < l0 := c40
                 have q1 : itN (nxtF (grtN F)) none (g + 1) = some (g, Gg) := by rw [hs, if_pos c28]; exact if_pos q2
                 exact ih c16 _ _ _ _ (Or.inr ⟨g, Gg, q1, rfl, rfl⟩))
              | (have q2 : l0 ≤ Gg := c40
                 have q1 : itN (nxtF (grtN F)) none (g + 1) = some (b0, l0) := by rw [hs, if_pos c28]; exact if_neg (by omega)
                 exact ih c16 _ _ _ _ (Or.inr ⟨b0, l0, q1, rfl, rfl⟩))
    refine Run.iload_n d_Rf_next_13 rfl ?_
    refine Run.bipush (v := nI 8) d_Rf_next_14 bp_8 ?_
    first | refine Run.icmp_ge_n d_Rf_next_16 (by omega) (by omega) (fun c16 => ?_) (fun c16 => ?_) | refine Run.icmp_ge d_Rf_next_16 (fun c16 => ?_) (fun c16 => ?_)
    · refine Run.iload_n d_Rf_next_54 rfl ?_
      refine Run.iret d_Rf_next_55 rfl rfl ?_
      refine ⟨?_, gr2, rfl⟩
      have e8 : g = 8 := by omega
      subst e8
      rcases hI with ⟨h1, h2, -⟩ | ⟨b0, l0, h1, h2, -⟩
      · rw [hn, h1, h2]; rfl
      · rw [hn, h1, h2]; rfl
    · refine Run.aload_n d_Rf_next_19 rfl ?_
      refine Run.iload_n d_Rf_next_20 rfl ?_
      refine Run.V1 d_Rf_next_21 lk_Rf_231 cm_Rf_greatest iv_Rf_greatest rfl (by first | rfl | assumption) (Nat.le_of_ble_eq_true rfl) (Nat.le_of_ble_eq_true rfl) (c_Rf_greatest hFd c16 hnt hta htv) (fun r21 h21 q21 => ?_)
      obtain ⟨rfl, gr3, rfl⟩ := q21
      exact h24 gr3 c16
  refine Run.aload_n d_Rf_next_0 rfl ?_
  refine Run.iconst (v := nI 0) d_Rf_next_1 ic_0 ?_
  refine Run.putf d_Rf_next_2 fl_Rf_59 (fun _ => rfl) (fun _ => rfl) (by first | rfl | assumption) (by exact Nat.le_of_ble_eq_true rfl) ?_
  refine run_hp (show _ = PX f0 ++ hM (z1, z2, z3, z4, z5, z6, z7, z8, nI nt, sd, y1, y2, y3, y4) tx ho pi rh rp pg tr bk kp ik fa fb ga gr va rw from rfl) ?_
  refine Run.bipush (v := -9) d_Rf_next_5 bp_m9 ?_
  refine Run.istore_n d_Rf_next_7 rfl rfl ?_
  show Run _ _ _ _ _ _ [_, _, _, _, _] _ _ _
  refine Run.bipush (v := -9) d_Rf_next_8 bp_m9 ?_
  refine Run.istore_n d_Rf_next_10 rfl rfl ?_
  show Run _ _ _ _ _ _ [_, _, _, _, _] _ _ _
  refine Run.iconst (v := nI 0) d_Rf_next_11 ic_0 ?_
  refine Run.istore_n d_Rf_next_12 rfl rfl ?_
  show Run _ _ _ _ _ _ [_, _, _, _, _] _ _ _
  exact key
end RUNK
