/-! ===== how many mothers (the reference) ===== -/
def dgN (m w x : Nat) : Nat := m / w ^ x % w
def LaP (c : CA) (m w n : Nat) : Prop := ∀ x y, y < x → x < n → dgN m w x = dgN m w y → cmN c x y = true
theorem dig_ex {w : Nat} (hw : 0 < w) (r : Nat → Nat) : ∀ n, (∀ a, a < n → r a < w) → ∃ N, N < w ^ n ∧ ∀ a, a < n → N / w ^ a % w = r a := by
  intro n
  induction n with
  | zero => intro _; exact ⟨0, Nat.pow_pos hw, fun a ha => by omega⟩
  | succ n ih =>
    intro h
    obtain ⟨N, h1, h2⟩ := ih (fun a ha => h a (by omega))
    have hwn : 0 < w ^ n := Nat.pow_pos hw
    refine ⟨N + w ^ n * r n, ?_, fun a ha => ?_⟩
    · have h3 : (r n + 1) * w ^ n ≤ w * w ^ n := Nat.mul_le_mul_right _ (h n (by omega))
      rw [Nat.succ_mul, Nat.mul_comm (r n)] at h3
      rw [Nat.pow_succ, Nat.mul_comm (w ^ n) w]
      omega
    · by_cases e : a = n
      · subst e
        rw [Nat.add_mul_div_left _ _ hwn, Nat.div_eq_of_lt h1, Nat.zero_add, Nat.mod_eq_of_lt (h a (by omega))]
      · have h3 : w ^ n = w ^ a * (w * w ^ (n - a - 1)) := by
          rw [← Nat.pow_succ', ← Nat.pow_add]
          congr 1
          omega
        rw [h3, Nat.mul_assoc, Nat.add_mul_div_left _ _ (Nat.pow_pos hw), Nat.mul_assoc, Nat.add_mul_mod_self_left]
        exact h2 a (by omega)
theorem full_bit {n a : Nat} : (2 ^ n - 1).testBit a = true ↔ a < n := by
  rw [Nat.testBit_two_pow_sub_one, decide_eq_true_eq]
theorem col_iff {c : CA} {n w : Nat} (hw : 0 < w) : ColP c (2 ^ n - 1) w ↔ ∃ m, m < w ^ n ∧ LaP c m w n := by
  constructor
  · rintro ⟨r, h1, h2⟩
    obtain ⟨N, h3, h4⟩ := dig_ex hw r n (fun a ha => h1 a (full_bit.mpr ha))
    refine ⟨N, h3, fun x y hy hx e => h2 x y hy (full_bit.mpr hx) (full_bit.mpr (by omega)) ?_⟩
    rw [dgN, dgN, h4 x hx, h4 y (by omega)] at e
    exact e
  · rintro ⟨N, -, h4⟩
    exact ⟨fun a => dgN N w a, fun a _ => Nat.mod_lt _ hw, fun a b hb ha _ e => h4 a b hb (full_bit.mp ha) e⟩
section RMOTH
variable {X : Nat × (Nat → Int32)} {d : Nat} {c : CA} {p : PG} {f0 : Nat → AC} {nu : NuS} {tx ho pi rh rp pg tr bk kp ik ta tp ga gr va rw : FI}
theorem c_Rf_mayBeOne {h : AH} {a b : Nat} (hc : coOK c) (hr : RfAt h c) (ha : a < npC c) (hb : b < npC c) : Call X (d + 1) 0 0 M_Rf_mayBeOne [.ref 44, .int (nI a), .int (nI b)] h (Ret (.int (bI (cmN c a b))) h) := by
  show Run X (d + 1) 0 0 M_Rf_mayBeOne 0 [some (.ref 44), some (.int (nI a)), some (.int (nI b))] [] h _
  obtain ⟨ts, pl, rl, rh, rp, ac, tu, sd, mm, mf, rm, rf, fh, fp, g0, g1, g2, hv1, hv2⟩ := hr
  obtain ⟨b1, b2, b3, b4⟩ := hc
  have wa := b4 a ha
  have wb := b4 b hb
  have w2 := ap_lt (anC c b) (anC c a)
  refine Run.aload_n d_Rf_mayBeOne_0 rfl ?_
  refine Run.getf d_Rf_mayBeOne_1 fl_Rf_16 (by first | rfl | assumption) (by rfl) ?_
  refine Run.iconst (v := nI 3) d_Rf_mayBeOne_4 ic_3 ?_
  refine Run.iload_n d_Rf_mayBeOne_5 rfl ?_
  first | refine Run.imul_n d_Rf_mayBeOne_6 ?_ | refine Run.imul d_Rf_mayBeOne_6 ?_
  refine Run.iald_n d_Rf_mayBeOne_7 (by first | rfl | assumption) (by omega) (by omega) ?_
  rw [(hv2 a ha).1]
  refine Run.aload_n d_Rf_mayBeOne_8 rfl ?_
  refine Run.getf d_Rf_mayBeOne_9 fl_Rf_16 (by first | rfl | assumption) (by rfl) ?_
  refine Run.iconst (v := nI 3) d_Rf_mayBeOne_12 ic_3 ?_
  refine Run.iload_n d_Rf_mayBeOne_13 rfl ?_
  first | refine Run.imul_n d_Rf_mayBeOne_14 ?_ | refine Run.imul d_Rf_mayBeOne_14 ?_
  refine Run.iald_n d_Rf_mayBeOne_15 (by first | rfl | assumption) (by omega) (by omega) ?_
  rw [(hv2 b hb).1]
  first | refine Run.icmp_eq_n d_Rf_mayBeOne_16 (by omega) (by omega) (fun c16 => ?_) (fun c16 => ?_) | refine Run.icmp_eq d_Rf_mayBeOne_16 (fun c16 => ?_) (fun c16 => ?_)
  · refine Run.iconst (v := nI 0) d_Rf_mayBeOne_50 ic_0 ?_
    refine Run.iret d_Rf_mayBeOne_51 rfl (by first | exact bI_nar _ | decide +kernel) ?_
    first
    | (have q0 : ptC c a = ptC c b := c16; exact ret_f (by rw [cmN, decide_eq_false (show ¬ ¬ ptC c b = ptC c a from fun z => z q0.symm), Bool.false_and]))
    | (have q0 : 2 < ap (anC c b) (anC c a) := c43; exact ret_f (by rw [cmN, decide_eq_false (p := ap (anC c b) (anC c a) ≤ 2) (by omega), Bool.and_false]))
    | (have q0 : ap (anC c b) (anC c a) ≤ 2 := c43; exact ret_t (by rw [cmN, decide_eq_true q0, decide_eq_true (show ¬ ptC c b = ptC c a from fun z => c16 z.symm)]; rfl))
  · refine Run.aload_n d_Rf_mayBeOne_19 rfl ?_
    refine Run.getf d_Rf_mayBeOne_20 fl_Rf_16 (by first | rfl | assumption) (by rfl) ?_
    refine Run.iconst (v := nI 3) d_Rf_mayBeOne_23 ic_3 ?_
    refine Run.iload_n d_Rf_mayBeOne_24 rfl ?_
    first | refine Run.imul_n d_Rf_mayBeOne_25 ?_ | refine Run.imul d_Rf_mayBeOne_25 ?_
    refine Run.iconst (v := nI 1) d_Rf_mayBeOne_26 ic_1 ?_
    first | refine Run.iadd_n d_Rf_mayBeOne_27 ?_ | refine Run.iadd d_Rf_mayBeOne_27 ?_
    refine Run.iald_n d_Rf_mayBeOne_28 (by first | rfl | assumption) (by omega) (by omega) ?_
    rw [(hv2 a ha).2.1]
    refine Run.aload_n d_Rf_mayBeOne_29 rfl ?_
    refine Run.getf d_Rf_mayBeOne_30 fl_Rf_16 (by first | rfl | assumption) (by rfl) ?_
    refine Run.iconst (v := nI 3) d_Rf_mayBeOne_33 ic_3 ?_
    refine Run.iload_n d_Rf_mayBeOne_34 rfl ?_
    first | refine Run.imul_n d_Rf_mayBeOne_35 ?_ | refine Run.imul d_Rf_mayBeOne_35 ?_
    refine Run.iconst (v := nI 1) d_Rf_mayBeOne_36 ic_1 ?_
    first | refine Run.iadd_n d_Rf_mayBeOne_37 ?_ | refine Run.iadd d_Rf_mayBeOne_37 ?_
    refine Run.iald_n d_Rf_mayBeOne_38 (by first | rfl | assumption) (by omega) (by omega) ?_
    rw [(hv2 b hb).2.1]
    refine Run.S2r d_Rf_mayBeOne_39 lk_Rf_111 cm_Rf_apart st_Rf_apart (Nat.le_of_ble_eq_true rfl) (Nat.le_of_ble_eq_true rfl) (c_Rf_apart wa.2.1 wb.2.1) ?_
    refine Run.iconst (v := nI 2) d_Rf_mayBeOne_42 ic_2 ?_
    first | refine Run.icmp_gt_n d_Rf_mayBeOne_43 (by omega) (by omega) (fun c43 => ?_) (fun c43 => ?_) | refine Run.icmp_gt d_Rf_mayBeOne_43 (fun c43 => ?_) (fun c43 => ?_)
    · refine Run.iconst (v := nI 0) d_Rf_mayBeOne_50 ic_0 ?_
      refine Run.iret d_Rf_mayBeOne_51 rfl (by first | exact bI_nar _ | decide +kernel) ?_
      first
      | (have q0 : ptC c a = ptC c b := c16; exact ret_f (by rw [cmN, decide_eq_false (show ¬ ¬ ptC c b = ptC c a from fun z => z q0.symm), Bool.false_and]))
      | (have q0 : 2 < ap (anC c b) (anC c a) := c43; exact ret_f (by rw [cmN, decide_eq_false (p := ap (anC c b) (anC c a) ≤ 2) (by omega), Bool.and_false]))
      | (have q0 : ap (anC c b) (anC c a) ≤ 2 := c43; exact ret_t (by rw [cmN, decide_eq_true q0, decide_eq_true (show ¬ ptC c b = ptC c a from fun z => c16 z.symm)]; rfl))
    · refine Run.iconst (v := nI 1) d_Rf_mayBeOne_46 ic_1 ?_
      refine Run.goto d_Rf_mayBeOne_47 ?_
      refine Run.iret d_Rf_mayBeOne_51 rfl (by first | exact bI_nar _ | decide +kernel) ?_
      first
      | (have q0 : ptC c a = ptC c b := c16; exact ret_f (by rw [cmN, decide_eq_false (show ¬ ¬ ptC c b = ptC c a from fun z => z q0.symm), Bool.false_and]))
      | (have q0 : 2 < ap (anC c b) (anC c a) := c43; exact ret_f (by rw [cmN, decide_eq_false (p := ap (anC c b) (anC c a) ≤ 2) (by omega), Bool.and_false]))
      | (have q0 : ap (anC c b) (anC c a) ≤ 2 := c43; exact ret_t (by rw [cmN, decide_eq_true q0, decide_eq_true (show ¬ ptC c b = ptC c a from fun z => c16 z.symm)]; rfl))
theorem q_Rf_isLaid {m w : Nat} (hc : coOK c) (hr : RfR c nu.2.2.1 nu.2.2.2.1 ho pi) (hw : 0 < w) (hw6 : w ≤ 6) (hm : m < 2 ^ 31) : Call X (d + 2) 0 0 M_Rf_isLaid [.ref 44, .int (nI m), .int (nI w)] (PX f0 ++ hM nu tx ho pi rh rp pg tr bk kp ik ta tp ga gr va rw) (fun r h2 => (∃ b, r = some (.int (bI b)) ∧ (b = true ↔ LaP c m w (npC c))) ∧ ∃ w2, h2 = PX f0 ++ hM nu tx ho pi rh rp pg tr bk kp ik ta tp ga gr va w2) := by
  show Run X (d + 2) 0 0 M_Rf_isLaid 0 [some (.ref 44), some (.int (nI m)), some (.int (nI w)), none, none, none] [] _ _
  have b2 := hc.2.1
  have hpw : ∀ a, a ≤ 6 → 0 < w ^ a ∧ w ^ a < 2 ^ 31 := fun a ha => ⟨Nat.pow_pos hw, Nat.lt_of_le_of_lt (Nat.le_trans (Nat.pow_le_pow_left hw6 a) (Nat.pow_le_pow_right (by omega) ha)) (by decide)⟩
  have hdg : ∀ x, dgN m w x < w := fun x => Nat.mod_lt _ hw
  have hdd : ∀ x, m / w ^ x % w = dgN m w x := fun x => rfl
  have hmd : ∀ x, m / w ^ x < 2 ^ 31 := fun x => Nat.lt_of_le_of_lt (Nat.div_le_self _ _) hm
  have h5 : ∀ a, a ≤ npC c → ∀ (rw : FI) (b : Bool) v5, (∀ x, x < a → rw x = nI (dgN m w x)) → (b = true ↔ LaP c m w a) → Run X (d + 2) 0 0 M_Rf_isLaid 5 [some (.ref 44), some (.int (nI m)), some (.int (nI w)), some (.int (bI b)), some (.int (nI a)), v5] [] (PX f0 ++ hM nu tx ho pi rh rp pg tr bk kp ik ta tp ga gr va rw) (fun r h2 => (∃ b, r = some (.int (bI b)) ∧ (b = true ↔ LaP c m w (npC c))) ∧ ∃ w2, h2 = PX f0 ++ hM nu tx ho pi rh rp pg tr bk kp ik ta tp ga gr va w2) := by
    refine upto (npC c) (fun a => ∀ (rw : FI) (b : Bool) v5, (∀ x, x < a → rw x = nI (dgN m w x)) → (b = true ↔ LaP c m w a) → Run X (d + 2) 0 0 M_Rf_isLaid 5 [some (.ref 44), some (.int (nI m)), some (.int (nI w)), some (.int (bI b)), some (.int (nI a)), v5] [] (PX f0 ++ hM nu tx ho pi rh rp pg tr bk kp ik ta tp ga gr va rw) (fun r h2 => (∃ b, r = some (.int (bI b)) ∧ (b = true ↔ LaP c m w (npC c))) ∧ ∃ w2, h2 = PX f0 ++ hM nu tx ho pi rh rp pg tr bk kp ik ta tp ga gr va w2)) ?_
    intro a ha ih rw b v5 he hb
    have h34 : ∀ (rw : FI), a < npC c → (∀ x, x < a + 1 → rw x = nI (dgN m w x)) → ∀ y, y ≤ a → ∀ b, (b = true ↔ (LaP c m w a ∧ ∀ z, z < y → dgN m w a = dgN m w z → cmN c a z = true)) → Run X (d + 2) 0 0 M_Rf_isLaid 34 [some (.ref 44), some (.int (nI m)), some (.int (nI w)), some (.int (bI b)), some (.int (nI a)), some (.int (nI y))] [] (PX f0 ++ hM nu tx ho pi rh rp pg tr bk kp ik ta tp ga gr va rw) (fun r h2 => (∃ b, r = some (.int (bI b)) ∧ (b = true ↔ LaP c m w (npC c))) ∧ ∃ w2, h2 = PX f0 ++ hM nu tx ho pi rh rp pg tr bk kp ik ta tp ga gr va w2) := by
      intro rw hlt he2
      refine upto a (fun y => ∀ b, (b = true ↔ (LaP c m w a ∧ ∀ z, z < y → dgN m w a = dgN m w z → cmN c a z = true)) → Run X (d + 2) 0 0 M_Rf_isLaid 34 [some (.ref 44), some (.int (nI m)), some (.int (nI w)), some (.int (bI b)), some (.int (nI a)), some (.int (nI y))] [] (PX f0 ++ hM nu tx ho pi rh rp pg tr bk kp ik ta tp ga gr va rw) (fun r h2 => (∃ b, r = some (.int (bI b)) ∧ (b = true ↔ LaP c m w (npC c))) ∧ ∃ w2, h2 = PX f0 ++ hM nu tx ho pi rh rp pg tr bk kp ik ta tp ga gr va w2)) ?_
      intro y hy ih2 b hb2
      have wa := hdg a
      have wy := hdg y
      have hex : ∀ b2 : Bool, y < a → (b2 = true ↔ (b = true ∧ (dgN m w a = dgN m w y → cmN c a y = true))) → (b2 = true ↔ (LaP c m w a ∧ ∀ z, z < y + 1 → dgN m w a = dgN m w z → cmN c a z = true)) := by
        intro b2 hlt2 hb3
        rw [hb3, hb2]
        constructor
        · rintro ⟨⟨q1, q2⟩, q3⟩
          refine ⟨q1, fun z hz e => ?_⟩
          by_cases ez : z = y
          · subst ez; exact q3 e
          · exact q2 z (by omega) e
        · rintro ⟨q1, q2⟩
          exact ⟨⟨q1, fun z hz => q2 z (by omega)⟩, q2 y (by omega)⟩
      refine Run.iload d_Rf_isLaid_34 rfl ?_
      refine Run.iload d_Rf_isLaid_36 rfl ?_
      first | refine Run.icmp_ge_n d_Rf_isLaid_38 (by omega) (by omega) (fun c38 => ?_) (fun c38 => ?_) | refine Run.icmp_ge d_Rf_isLaid_38 (fun c38 => ?_) (fun c38 => ?_)
      · have e8 : y = a := by omega
        subst e8
        refine Run.iinc_n d_Rf_isLaid_85 ic_1 rfl rfl ?_
        show Run _ _ _ _ _ _ [_, _, _, _, _, _] _ _ _
        refine Run.goto d_Rf_isLaid_88 ?_
        refine ih hlt rw b _ he2 ?_
        rw [hb2]
        constructor
        · rintro ⟨q1, q2⟩ x z hz hx e
          by_cases ex : x = y
          · subst ex; exact q2 z hz e
          · exact q1 x z hz (by omega) e
        · intro q
          exact ⟨fun x z hz hx => q x z hz (by omega), fun z hz => q y z hz (by omega)⟩
      · refine Run.iload_n d_Rf_isLaid_41 rfl ?_
        first | refine Run.if_eq_b d_Rf_isLaid_42 (fun c42 => ?_) (fun c42 => ?_) | refine Run.if_eq_n d_Rf_isLaid_42 (by omega) (fun c42 => ?_) (fun c42 => ?_) | refine Run.if_eq d_Rf_isLaid_42 (fun c42 => ?_) (fun c42 => ?_)
        · refine Run.iconst (v := nI 0) d_Rf_isLaid_77 ic_0 ?_
          refine Run.istore_n d_Rf_isLaid_78 rfl rfl ?_
          show Run _ _ _ _ _ _ [_, _, _, _, _, _] _ _ _
          first | refine Run.iinc_n d_Rf_isLaid_79 ic_1 rfl rfl ?_ | refine Run.iinc d_Rf_isLaid_79 rfl rfl rfl ?_
          show Run _ _ _ _ _ _ [_, _, _, _, _, _] _ _ _
          refine Run.goto d_Rf_isLaid_82 ?_
          first
          | (have q0 : b = false := c42
             exact ih2 c38 false (hex false c38 ⟨fun z => (by cases z), fun z => by rw [q0] at z; cases z.1⟩))
          | (have q0 : ¬ dgN m w a = dgN m w y := c59
             exact ih2 c38 true (hex true c38 ⟨fun _ => ⟨c42, fun z => absurd z q0⟩, fun _ => rfl⟩))
          | (have q0 : cmN c a y = false := c70
             exact ih2 c38 false (hex false c38 ⟨fun z => (by cases z), fun z => by rw [z.2 c59] at q0; cases q0⟩))
          | (have q0 : cmN c a y = true := c70
             exact ih2 c38 true (hex true c38 ⟨fun _ => ⟨c42, fun _ => q0⟩, fun _ => rfl⟩))
        · refine Run.aload_n d_Rf_isLaid_45 rfl ?_
          refine Run.getf d_Rf_isLaid_46 fl_Rf_56 (by first | rfl | assumption) (by rfl) ?_
          refine Run.iload d_Rf_isLaid_49 rfl ?_
          refine Run.iald_n d_Rf_isLaid_51 (by first | rfl | assumption) (by omega) (by omega) ?_
          rw [he2 a (by omega)]
          refine Run.aload_n d_Rf_isLaid_52 rfl ?_
          refine Run.getf d_Rf_isLaid_53 fl_Rf_56 (by first | rfl | assumption) (by rfl) ?_
          refine Run.iload d_Rf_isLaid_56 rfl ?_
          refine Run.iald_n d_Rf_isLaid_58 (by first | rfl | assumption) (by omega) (by omega) ?_
          rw [he2 y (by omega)]
          first | refine Run.icmp_ne_n d_Rf_isLaid_59 (by omega) (by omega) (fun c59 => ?_) (fun c59 => ?_) | refine Run.icmp_ne d_Rf_isLaid_59 (fun c59 => ?_) (fun c59 => ?_)
          · refine Run.iconst (v := nI 1) d_Rf_isLaid_73 ic_1 ?_
            refine Run.goto d_Rf_isLaid_74 ?_
            refine Run.istore_n d_Rf_isLaid_78 rfl rfl ?_
            show Run _ _ _ _ _ _ [_, _, _, _, _, _] _ _ _
            first | refine Run.iinc_n d_Rf_isLaid_79 ic_1 rfl rfl ?_ | refine Run.iinc d_Rf_isLaid_79 rfl rfl rfl ?_
            show Run _ _ _ _ _ _ [_, _, _, _, _, _] _ _ _
            refine Run.goto d_Rf_isLaid_82 ?_
            first
            | (have q0 : b = false := c42
               exact ih2 c38 false (hex false c38 ⟨fun z => (by cases z), fun z => by rw [q0] at z; cases z.1⟩))
            | (have q0 : ¬ dgN m w a = dgN m w y := c59
               exact ih2 c38 true (hex true c38 ⟨fun _ => ⟨c42, fun z => absurd z q0⟩, fun _ => rfl⟩))
            | (have q0 : cmN c a y = false := c70
               exact ih2 c38 false (hex false c38 ⟨fun z => (by cases z), fun z => by rw [z.2 c59] at q0; cases q0⟩))
            | (have q0 : cmN c a y = true := c70
               exact ih2 c38 true (hex true c38 ⟨fun _ => ⟨c42, fun _ => q0⟩, fun _ => rfl⟩))
          · refine Run.aload_n d_Rf_isLaid_62 rfl ?_
            refine Run.iload d_Rf_isLaid_63 rfl ?_
            refine Run.iload d_Rf_isLaid_65 rfl ?_
            refine Run.V2r d_Rf_isLaid_67 lk_Rf_189 cm_Rf_mayBeOne iv_Rf_mayBeOne rfl (by first | rfl | assumption) (Nat.le_of_ble_eq_true rfl) (Nat.le_of_ble_eq_true rfl) (c_Rf_mayBeOne hc hr.at hlt (by omega)) ?_
            first | refine Run.if_eq_b d_Rf_isLaid_70 (fun c70 => ?_) (fun c70 => ?_) | refine Run.if_eq_n d_Rf_isLaid_70 (by omega) (fun c70 => ?_) (fun c70 => ?_) | refine Run.if_eq d_Rf_isLaid_70 (fun c70 => ?_) (fun c70 => ?_)
            · refine Run.iconst (v := nI 0) d_Rf_isLaid_77 ic_0 ?_
              refine Run.istore_n d_Rf_isLaid_78 rfl rfl ?_
              show Run _ _ _ _ _ _ [_, _, _, _, _, _] _ _ _
              first | refine Run.iinc_n d_Rf_isLaid_79 ic_1 rfl rfl ?_ | refine Run.iinc d_Rf_isLaid_79 rfl rfl rfl ?_
              show Run _ _ _ _ _ _ [_, _, _, _, _, _] _ _ _
              refine Run.goto d_Rf_isLaid_82 ?_
              first
              | (have q0 : b = false := c42
                 exact ih2 c38 false (hex false c38 ⟨fun z => (by cases z), fun z => by rw [q0] at z; cases z.1⟩))
              | (have q0 : ¬ dgN m w a = dgN m w y := c59
                 exact ih2 c38 true (hex true c38 ⟨fun _ => ⟨c42, fun z => absurd z q0⟩, fun _ => rfl⟩))
              | (have q0 : cmN c a y = false := c70
                 exact ih2 c38 false (hex false c38 ⟨fun z => (by cases z), fun z => by rw [z.2 c59] at q0; cases q0⟩))
              | (have q0 : cmN c a y = true := c70
                 exact ih2 c38 true (hex true c38 ⟨fun _ => ⟨c42, fun _ => q0⟩, fun _ => rfl⟩))
            · refine Run.iconst (v := nI 1) d_Rf_isLaid_73 ic_1 ?_
              refine Run.goto d_Rf_isLaid_74 ?_
              refine Run.istore_n d_Rf_isLaid_78 rfl rfl ?_
              show Run _ _ _ _ _ _ [_, _, _, _, _, _] _ _ _
              first | refine Run.iinc_n d_Rf_isLaid_79 ic_1 rfl rfl ?_ | refine Run.iinc d_Rf_isLaid_79 rfl rfl rfl ?_
              show Run _ _ _ _ _ _ [_, _, _, _, _, _] _ _ _
              refine Run.goto d_Rf_isLaid_82 ?_
              first
              | (have q0 : b = false := c42
                 exact ih2 c38 false (hex false c38 ⟨fun z => (by cases z), fun z => by rw [q0] at z; cases z.1⟩))
              | (have q0 : ¬ dgN m w a = dgN m w y := c59
                 exact ih2 c38 true (hex true c38 ⟨fun _ => ⟨c42, fun z => absurd z q0⟩, fun _ => rfl⟩))
              | (have q0 : cmN c a y = false := c70
                 exact ih2 c38 false (hex false c38 ⟨fun z => (by cases z), fun z => by rw [z.2 c59] at q0; cases q0⟩))
              | (have q0 : cmN c a y = true := c70
                 exact ih2 c38 true (hex true c38 ⟨fun _ => ⟨c42, fun _ => q0⟩, fun _ => rfl⟩))
    have wp := hpw a (by omega)
    have wm := hmd a
    refine Run.iload d_Rf_isLaid_5 rfl ?_
    refine Run.aload_n d_Rf_isLaid_7 rfl ?_
    refine Run.getf d_Rf_isLaid_8 fl_Rf_70 (by first | rfl | assumption) (by rfl) ?_
    rw [hr.2.1]
    first | refine Run.icmp_ge_n d_Rf_isLaid_11 (by omega) (by omega) (fun c11 => ?_) (fun c11 => ?_) | refine Run.icmp_ge d_Rf_isLaid_11 (fun c11 => ?_) (fun c11 => ?_)
    · refine Run.iload_n d_Rf_isLaid_91 rfl ?_
      refine Run.iret d_Rf_isLaid_92 rfl (by first | exact bI_nar _ | decide +kernel) ?_
      have e8 : a = npC c := by omega
      subst e8
      exact ⟨⟨b, rfl, hb⟩, rw, rfl⟩
    · refine Run.aload_n d_Rf_isLaid_14 rfl ?_
      refine Run.getf d_Rf_isLaid_15 fl_Rf_56 (by first | rfl | assumption) (by rfl) ?_
      refine Run.iload d_Rf_isLaid_18 rfl ?_
      refine Run.iload_n d_Rf_isLaid_20 rfl ?_
      refine Run.iload_n d_Rf_isLaid_21 rfl ?_
      refine Run.iload d_Rf_isLaid_22 rfl ?_
      refine Run.S2r d_Rf_isLaid_24 lk_Rf_186 cm_Rf_power st_Rf_power (Nat.le_of_ble_eq_true rfl) (Nat.le_of_ble_eq_true rfl) (c_Rf_power (by omega)) ?_
      first | refine Run.idiv_n d_Rf_isLaid_27 (by omega) (by omega) (by omega) ?_ | refine Run.idiv d_Rf_isLaid_27 (by decide +kernel) ?_
      refine Run.iload_n d_Rf_isLaid_28 rfl ?_
      first | refine Run.irem_n d_Rf_isLaid_29 (by omega) (by omega) (by omega) ?_ | refine Run.irem d_Rf_isLaid_29 (by decide +kernel) ?_
      rw [hdd]
      refine Run.iast_n d_Rf_isLaid_30 (by first | rfl | assumption) (by omega) (by omega) ?_
      refine Run.iconst (v := nI 0) d_Rf_isLaid_31 ic_0 ?_
      refine Run.istore d_Rf_isLaid_32 rfl rfl ?_
      show Run _ _ _ _ _ _ [_, _, _, _, _, _] _ _ _
      refine h34 (upd rw a (nI (dgN m w a))) c11 (fun x hx => ?_) 0 (Nat.zero_le _) b ?_
      · by_cases e : x = a
        · subst e; exact pk_us
        · rw [pk_un e]; exact he x (by omega)
      · rw [hb]
        exact ⟨fun z => ⟨z, fun y hy => by omega⟩, fun z => z.1⟩
  refine Run.iconst (v := nI 1) d_Rf_isLaid_0 ic_1 ?_
  refine Run.istore_n d_Rf_isLaid_1 rfl rfl ?_
  show Run _ _ _ _ _ _ [_, _, _, _, _, _] _ _ _
  refine Run.iconst (v := nI 0) d_Rf_isLaid_2 ic_0 ?_
  refine Run.istore d_Rf_isLaid_3 rfl rfl ?_
  show Run _ _ _ _ _ _ [_, _, _, _, _, _] _ _ _
  exact h5 0 (Nat.zero_le _) rw true none (fun x hx => by omega) ⟨fun _ x y hy hx => by omega, fun _ => rfl⟩
theorem q_Rf_mothers (hc : coOK c) (hr : RfR c nu.2.2.1 nu.2.2.2.1 ho pi) : Call X (d + 3) 0 0 M_Rf_mothers [.ref 44] (PX f0 ++ hM nu tx ho pi rh rp pg tr bk kp ik ta tp ga gr va rw) (fun r h2 => (∃ k, r = some (.int (nI k)) ∧ FwP c (2 ^ npC c - 1) k) ∧ ∃ w2, h2 = PX f0 ++ hM nu tx ho pi rh rp pg tr bk kp ik ta tp ga gr va w2) := by
  show Run X (d + 3) 0 0 M_Rf_mothers 0 [some (.ref 44), none, none] [] _ _
  have b2 := hc.2.1
  have hfull : 2 ^ npC c - 1 < 2 ^ npC c := by have := Nat.two_pow_pos (npC c); omega
  by_cases hn0 : npC c = 0
  ·
    refine Run.aload_n d_Rf_mothers_0 rfl ?_
    refine Run.iconst (v := nI 0) d_Rf_mothers_1 ic_0 ?_
    refine Run.putf d_Rf_mothers_2 fl_Rf_59 (fun _ => rfl) (fun _ => rfl) (by first | rfl | assumption) (by exact Nat.le_of_ble_eq_true rfl) ?_
    refine run_hp (show _ = PX f0 ++ hM nu tx ho pi rh rp pg tr bk kp ik ta tp ga gr va rw from rfl) ?_
    refine Run.aload_n d_Rf_mothers_5 rfl ?_
    refine Run.getf d_Rf_mothers_6 fl_Rf_70 (by first | rfl | assumption) (by rfl) ?_
    rw [hr.2.1]
    first | refine Run.if_ne_b d_Rf_mothers_9 (fun c9 => ?_) (fun c9 => ?_) | refine Run.if_ne_n d_Rf_mothers_9 (by omega) (fun c9 => ?_) (fun c9 => ?_) | refine Run.if_ne d_Rf_mothers_9 (fun c9 => ?_) (fun c9 => ?_)
    · exact absurd hn0 c9
    · refine Run.iconst (v := nI 0) d_Rf_mothers_12 ic_0 ?_
      refine Run.iret d_Rf_mothers_13 rfl rfl ?_
      refine ⟨⟨0, rfl, ?_⟩, rw, rfl⟩
      rw [hn0]
      exact fw_0 c
  · have hpos : ∀ k, ColP c (2 ^ npC c - 1) k → 0 < k := by
      rintro k ⟨r, h1, -⟩
      have := h1 0 (full_bit.mpr (by omega))
      omega
    have h16 : ∀ w, w ≤ npC c → 1 ≤ w → ∀ (rw : FI) v2, (∀ k, k < w → ¬ ColP c (2 ^ npC c - 1) k) → Run X (d + 3) 0 0 M_Rf_mothers 16 [some (.ref 44), some (.int (nI w)), v2] [] (PX f0 ++ hM nu tx ho pi rh rp pg tr bk kp ik ta tp ga gr va rw) (fun r h2 => (∃ k, r = some (.int (nI k)) ∧ FwP c (2 ^ npC c - 1) k) ∧ ∃ w2, h2 = PX f0 ++ hM nu tx ho pi rh rp pg tr bk kp ik ta tp ga gr va w2) := by
      refine upto (npC c) (fun w => 1 ≤ w → ∀ (rw : FI) v2, (∀ k, k < w → ¬ ColP c (2 ^ npC c - 1) k) → Run X (d + 3) 0 0 M_Rf_mothers 16 [some (.ref 44), some (.int (nI w)), v2] [] (PX f0 ++ hM nu tx ho pi rh rp pg tr bk kp ik ta tp ga gr va rw) (fun r h2 => (∃ k, r = some (.int (nI k)) ∧ FwP c (2 ^ npC c - 1) k) ∧ ∃ w2, h2 = PX f0 ++ hM nu tx ho pi rh rp pg tr bk kp ik ta tp ga gr va w2)) ?_
      intro w hw ih h1 rw v2 hno
      have hpl : w ^ npC c < 2 ^ 31 := Nat.lt_of_le_of_lt (Nat.le_trans (Nat.pow_le_pow_left (show w ≤ 6 by omega) _) (Nat.pow_le_pow_right (by omega) b2)) (by decide)
      have h26 : w < npC c → ∀ m, m ≤ w ^ npC c → ∀ rw : FI, (∀ q, q < m → ¬ LaP c q w (npC c)) → Run X (d + 3) 0 0 M_Rf_mothers 26 [some (.ref 44), some (.int (nI w)), some (.int (nI m))] [] (PX f0 ++ hM nu tx ho pi rh rp pg tr bk kp ik ta tp ga gr va rw) (fun r h2 => (∃ k, r = some (.int (nI k)) ∧ FwP c (2 ^ npC c - 1) k) ∧ ∃ w2, h2 = PX f0 ++ hM nu tx ho pi rh rp pg tr bk kp ik ta tp ga gr va w2) := by
        intro hlt
        refine upto (w ^ npC c) (fun m => ∀ rw : FI, (∀ q, q < m → ¬ LaP c q w (npC c)) → Run X (d + 3) 0 0 M_Rf_mothers 26 [some (.ref 44), some (.int (nI w)), some (.int (nI m))] [] (PX f0 ++ hM nu tx ho pi rh rp pg tr bk kp ik ta tp ga gr va rw) (fun r h2 => (∃ k, r = some (.int (nI k)) ∧ FwP c (2 ^ npC c - 1) k) ∧ ∃ w2, h2 = PX f0 ++ hM nu tx ho pi rh rp pg tr bk kp ik ta tp ga gr va w2)) ?_
        intro m hm ih2 rw hq
        refine Run.iload_n d_Rf_mothers_26 rfl ?_
        refine Run.iload_n d_Rf_mothers_27 rfl ?_
        refine Run.aload_n d_Rf_mothers_28 rfl ?_
        refine Run.getf d_Rf_mothers_29 fl_Rf_70 (by first | rfl | assumption) (by rfl) ?_
        rw [hr.2.1]
        refine Run.S2r d_Rf_mothers_32 lk_Rf_186 cm_Rf_power st_Rf_power (Nat.le_of_ble_eq_true rfl) (Nat.le_of_ble_eq_true rfl) (c_Rf_power (by omega)) ?_
        first | refine Run.icmp_ge_n d_Rf_mothers_35 (by omega) (by omega) (fun c35 => ?_) (fun c35 => ?_) | refine Run.icmp_ge d_Rf_mothers_35 (fun c35 => ?_) (fun c35 => ?_)
        · first | refine Run.iinc_n d_Rf_mothers_55 ic_1 rfl rfl ?_ | refine Run.iinc d_Rf_mothers_55 rfl rfl rfl ?_
          show Run _ _ _ _ _ _ [_, _, _] _ _ _
          refine Run.goto d_Rf_mothers_58 ?_
          refine ih hlt (by omega) rw _ (fun k hk => ?_)
          by_cases e : k = w
          · subst e
            intro z
            obtain ⟨m2, h3, h4⟩ := (col_iff (by omega)).mp z
            exact hq m2 (by omega) h4
          · exact hno k (by omega)
        · refine Run.aload_n d_Rf_mothers_38 rfl ?_
          refine Run.iload_n d_Rf_mothers_39 rfl ?_
          refine Run.iload_n d_Rf_mothers_40 rfl ?_
          refine Run.V2 d_Rf_mothers_41 lk_Rf_192 cm_Rf_isLaid iv_Rf_isLaid rfl (by first | rfl | assumption) (Nat.le_of_ble_eq_true rfl) (Nat.le_of_ble_eq_true rfl) (q_Rf_isLaid hc hr (by omega) (by omega) (by omega)) (fun r41 h41 q41 => ?_)
          obtain ⟨⟨b, rfl, hb⟩, rw2, rfl⟩ := q41
          first | refine Run.if_eq_b d_Rf_mothers_44 (fun c44 => ?_) (fun c44 => ?_) | refine Run.if_eq_n d_Rf_mothers_44 (by omega) (fun c44 => ?_) (fun c44 => ?_) | refine Run.if_eq d_Rf_mothers_44 (fun c44 => ?_) (fun c44 => ?_)
          · first | refine Run.iinc_n d_Rf_mothers_49 ic_1 rfl rfl ?_ | refine Run.iinc d_Rf_mothers_49 rfl rfl rfl ?_
            show Run _ _ _ _ _ _ [_, _, _] _ _ _
            refine Run.goto d_Rf_mothers_52 ?_
            refine ih2 c35 rw2 (fun q hqm => ?_)
            by_cases e : q = m
            · subst e
              intro z
              rw [c44] at hb
              exact absurd (hb.mpr z) (by decide)
            · exact hq q (by omega)
          · refine Run.iload_n d_Rf_mothers_47 rfl ?_
            refine Run.iret d_Rf_mothers_48 rfl rfl ?_
            exact ⟨⟨w, rfl, (col_iff (by omega)).mpr ⟨m, c35, hb.mp c44⟩, fun k hk => by
            rcases Nat.lt_or_ge k w with q | q
            · exact absurd hk (hno k q)
            · exact q⟩, rw2, rfl⟩
      refine Run.iload_n d_Rf_mothers_16 rfl ?_
      refine Run.aload_n d_Rf_mothers_17 rfl ?_
      refine Run.getf d_Rf_mothers_18 fl_Rf_70 (by first | rfl | assumption) (by rfl) ?_
      rw [hr.2.1]
      first | refine Run.icmp_ge_n d_Rf_mothers_21 (by omega) (by omega) (fun c21 => ?_) (fun c21 => ?_) | refine Run.icmp_ge d_Rf_mothers_21 (fun c21 => ?_) (fun c21 => ?_)
      · refine Run.aload_n d_Rf_mothers_61 rfl ?_
        refine Run.getf d_Rf_mothers_62 fl_Rf_70 (by first | rfl | assumption) (by rfl) ?_
        rw [hr.2.1]
        refine Run.iret d_Rf_mothers_65 rfl rfl ?_
        refine ⟨⟨npC c, rfl, col_n hfull, fun k hk => ?_⟩, rw, rfl⟩
        rcases Nat.lt_or_ge k (npC c) with q | q
        · exact absurd hk (hno k (by omega))
        · exact q
      · refine Run.iconst (v := nI 0) d_Rf_mothers_24 ic_0 ?_
        refine Run.istore_n d_Rf_mothers_25 rfl rfl ?_
        show Run _ _ _ _ _ _ [_, _, _] _ _ _
        exact h26 c21 0 (Nat.zero_le _) rw (fun q hq => by omega)
    refine Run.aload_n d_Rf_mothers_0 rfl ?_
    refine Run.iconst (v := nI 0) d_Rf_mothers_1 ic_0 ?_
    refine Run.putf d_Rf_mothers_2 fl_Rf_59 (fun _ => rfl) (fun _ => rfl) (by first | rfl | assumption) (by exact Nat.le_of_ble_eq_true rfl) ?_
    refine run_hp (show _ = PX f0 ++ hM nu tx ho pi rh rp pg tr bk kp ik ta tp ga gr va rw from rfl) ?_
    refine Run.aload_n d_Rf_mothers_5 rfl ?_
    refine Run.getf d_Rf_mothers_6 fl_Rf_70 (by first | rfl | assumption) (by rfl) ?_
    rw [hr.2.1]
    first | refine Run.if_ne_b d_Rf_mothers_9 (fun c9 => ?_) (fun c9 => ?_) | refine Run.if_ne_n d_Rf_mothers_9 (by omega) (fun c9 => ?_) (fun c9 => ?_) | refine Run.if_ne d_Rf_mothers_9 (fun c9 => ?_) (fun c9 => ?_)
    · refine Run.iconst (v := nI 1) d_Rf_mothers_14 ic_1 ?_
      refine Run.istore_n d_Rf_mothers_15 rfl rfl ?_
      show Run _ _ _ _ _ _ [_, _, _] _ _ _
      exact h16 1 (by omega) (Nat.le_refl _) rw none (fun k hk z => by have := hpos k z; omega)
    · exact absurd c9 hn0
end RMOTH
