/-! ===== rests, when (the reference) ===== -/
/-- the reference's rows that stand for the coast -/
def RfR (c : CA) (nh np : Int32) (ho pi : FI) : Prop := nh = nI (nhC c) ∧ np = nI (npC c) ∧ (∀ j, j < nhC c → ho j = nI (hkC c j)) ∧ ∀ i, i < npC c → pi (3 * i) = nI (ptC c i) ∧ pi (3 * i + 1) = nI (anC c i) ∧ pi (3 * i + 2) = nI (kdC c i)
/-- the same cells, the numbers one by one (the kernel compares them at once) -/
def hMx (z1 z2 z3 z4 z5 z6 z7 z8 z9 : Int32) (sd : Int64) (y1 y2 y3 y4 : Int32) (tx ho pi rh rp pg tr bk kp ik ta tp ga gr va rw : FI) : AH :=
  [.inr (8, [.int (nI 0), .ref 45, .int z1, .int z2, .int z3, .ref 46, .int z4, .ref 47, .int z5, .int z6, .ref 48, .int z7, .ref 49, .ref 50, .ref 51, .ref 52, .int z8, .ref 53, .ref 54, .int z9, .ref 55, .ref 56, .long sd, .int y1, .int y2, .int y3, .int y4, .ref 57, .ref 58, .ref 59, .ref 60]),
   .inl (.int, 48, .inl tx), .inl (.int, 4, .inl ho), .inl (.int, 18, .inl pi), .inl (.int, 4, .inl rh), .inl (.int, 24, .inl rp), .inl (.int, 14, .inl pg), .inl (.int, 14, .inl tr), .inl (.int, 196, .inl bk), .inl (.int, 28, .inl kp), .inl (.boolean, 2, .inl ik), .inl (.int, 6, .inl ta), .inl (.int, 6, .inl tp), .inl (.int, 8, .inl ga), .inl (.int, 6, .inl gr), .inl (.int, 64, .inl va), .inl (.int, 6, .inl rw)]
theorem hM_x {z1 z2 z3 z4 z5 z6 z7 z8 z9 : Int32} {sd : Int64} {y1 y2 y3 y4 : Int32} {tx ho pi rh rp pg tr bk kp ik ta tp ga gr va rw : FI} : hM (z1, z2, z3, z4, z5, z6, z7, z8, z9, sd, y1, y2, y3, y4) tx ho pi rh rp pg tr bk kp ik ta tp ga gr va rw = hMx z1 z2 z3 z4 z5 z6 z7 z8 z9 sd y1 y2 y3 y4 tx ho pi rh rp pg tr bk kp ik ta tp ga gr va rw := rfl
section RRESTS
variable {X : Nat × (Nat → Int32)} {d : Nat} {c : CA} {p : PG} {f0 : Nat → AC} {nu : NuS} {tx ho pi rh rp pg tr bk kp ik ta tp ga gr va rw : FI} {z1 z2 z3 z4 z5 z6 z7 z8 z9 y1 y2 y3 y4 : Int32} {sd : Int64}
theorem RfR.at (h : RfR c nu.2.2.1 nu.2.2.2.1 ho pi) : RfAt (PX f0 ++ hM nu tx ho pi rh rp pg tr bk kp ik ta tp ga gr va rw) c := ⟨_, _, _, _, _, _, _, _, _, _, _, _, _, _, by rw [← h.1, ← h.2.1]; rfl, rfl, rfl, h.2.2.1, h.2.2.2⟩
theorem PgV.a49 (h : PgV c p pg) : PgAt (PX f0 ++ hM nu tx ho pi rh rp pg tr bk kp ik ta tp ga gr va rw) 49 c p := ⟨pg, rfl, h⟩
theorem PgV.a50 (h : PgV c p tr) : PgAt (PX f0 ++ hM nu tx ho pi rh rp pg tr bk kp ik ta tp ga gr va rw) 50 c p := ⟨tr, rfl, h⟩
theorem pg_hour {n : Nat} {f : FI} (hp : pgOK c p) (hh : pgH p ≤ 900) (hn : n ≤ 60) : pgOK c (hourN p n) := ⟨Nat.mod_lt _ (by omega), by show pgH p + n ≤ 1000; omega, hp.2.2⟩
theorem r_when36 {j t : Nat} (hc : coOK c) (hp : pgOK c p) (hh : pgH p ≤ 900) (hr : RfR c nu.2.2.1 nu.2.2.2.1 ho pi) (hg : PgV c p tr) (hj : j < nhC c) (ht : t < 5) : Run X (d + 5) 0 0 M_Rf_when 36 [some (.ref 44), some (.int (nI j)), some (.int (nI t)), some (.int (nI 0))] [] (PX f0 ++ hM nu tx ho pi rh rp pg tr bk kp ik ta tp ga gr va rw) (fun r h2 => r = some (.int (oI (whenN c p j t))) ∧ ∃ t2, h2 = PX f0 ++ hM nu tx ho pi rh rp pg t2 bk kp ik ta tp ga gr va rw) := by
  have b1 := hc.1
  refine upto 8 (fun n => ∀ tr2 : FI, PgV c (hourN p n) tr2 → fstN (whenP c p j t) n = none → Run X (d + 5) 0 0 M_Rf_when 36 [some (.ref 44), some (.int (nI j)), some (.int (nI t)), some (.int (nI n))] [] (PX f0 ++ hM nu tx ho pi rh rp pg tr2 bk kp ik ta tp ga gr va rw) (fun r h2 => r = some (.int (oI (whenN c p j t))) ∧ ∃ t2, h2 = PX f0 ++ hM nu tx ho pi rh rp pg t2 bk kp ik ta tp ga gr va rw)) ?_ 0 (Nat.zero_le _) tr (by rw [hourN_0 hp]; exact hg) rfl
  intro n hn ih tr2 he hf
  have w1 := seenN_lt hc (hourN p n) j
  have hp2 : pgOK c (hourN p n) := pg_hour (f := tr) hp hh (by omega)
  have hl : tr2 12 = nI ((pgL p + n) % 8) := he.2.1
  have hhh : tr2 13 = nI (pgH p + n) := he.2.2
  refine Run.iload_n d_Rf_when_36 rfl ?_
  refine Run.bipush (v := nI 8) d_Rf_when_37 bp_8 ?_
  first | refine Run.icmp_ge_n d_Rf_when_39 (by omega) (by omega) (fun c39 => ?_) (fun c39 => ?_) | refine Run.icmp_ge d_Rf_when_39 (fun c39 => ?_) (fun c39 => ?_)
  · refine Run.bipush (v := -9) d_Rf_when_75 bp_m9 ?_
    refine Run.iret d_Rf_when_77 rfl rfl ?_
    exact ⟨by rw [whenN, show 8 = n by omega, hf]; rfl, tr2, rfl⟩
  · refine Run.aload_n d_Rf_when_42 rfl ?_
    refine Run.aload_n d_Rf_when_43 rfl ?_
    refine Run.getf d_Rf_when_44 fl_Rf_28 (by first | rfl | assumption) (by rfl) ?_
    refine Run.iload_n d_Rf_when_47 rfl ?_
    refine Run.bipush (v := nI 63) d_Rf_when_48 bp_63 ?_
    refine Run.V3r d_Rf_when_50 lk_Rf_135 cm_Rf_seesOf iv_Rf_seesOf rfl (by first | rfl | assumption) (Nat.le_of_ble_eq_true rfl) (Nat.le_of_ble_eq_true rfl) (c_Rf_seesOf hc hp2 hr.at he.a50 (by omega) (by omega)) ?_
    rw [sesN_63 hc.2.1]
    refine Run.iload_n d_Rf_when_53 rfl ?_
    refine Run.S2r d_Rf_when_54 lk_Rf_127 cm_Rf_has st_Rf_has (Nat.le_of_ble_eq_true rfl) (Nat.le_of_ble_eq_true rfl) (c_Rf_has (by omega) (by omega)) ?_
    first | refine Run.if_eq_b d_Rf_when_57 (fun c57 => ?_) (fun c57 => ?_) | refine Run.if_eq_n d_Rf_when_57 (by omega) (fun c57 => ?_) (fun c57 => ?_) | refine Run.if_eq d_Rf_when_57 (fun c57 => ?_) (fun c57 => ?_)
    · refine Run.aload_n d_Rf_when_62 rfl ?_
      refine Run.getf d_Rf_when_63 fl_Rf_28 (by first | rfl | assumption) (by rfl) ?_
      refine Run.S1v d_Rf_when_66 lk_Rf_168 cm_Rf_goHour st_Rf_goHour (Nat.le_of_ble_eq_true rfl) (Nat.le_of_ble_eq_true rfl) (q_Rf_goHour (k := 50) rfl hl hhh (Nat.mod_lt _ (by omega))) ?_
      first | refine Run.iinc_n d_Rf_when_69 ic_1 rfl rfl ?_ | refine Run.iinc d_Rf_when_69 rfl rfl rfl ?_
      show Run _ _ _ _ _ _ [_, _, _, _] _ _ _
      refine Run.goto d_Rf_when_72 ?_
      refine ih c39 (upd (upd tr2 12 (nI (((pgL p + n) % 8 + 1) % 8))) 13 (nI (pgH p + n + 1))) ⟨fun i hi => ?_, ?_, ?_⟩ (fstN_n hf c57)
      · have b2 := hc.2.1
        rw [pk_un (by omega), pk_un (by omega), pk_un (by omega), pk_un (by omega)]
        exact he.1 i hi
      · rw [pk_un (by omega), pk_us]
        show nI _ = nI ((pgL p + (n + 1)) % 8)
        congr 1
        omega
      · rw [pk_us]
        rfl
    · refine Run.iload_n d_Rf_when_60 rfl ?_
      refine Run.iret d_Rf_when_61 rfl rfl ?_
      exact ⟨by rw [whenN, fstN_s hf c57 8 (by omega)]; rfl, tr2, rfl⟩
theorem q_Rf_when {y t : Int32} (hc : coOK c) (hp : pgOK c p) (hh : pgH p ≤ 900) (hr : RfR c nu.2.2.1 nu.2.2.2.1 ho pi) (hg : PgV c p pg) : Call X (d + 5) 0 0 M_Rf_when [.ref 44, .int y, .int t] (PX f0 ++ hM nu tx ho pi rh rp pg tr bk kp ik ta tp ga gr va rw) (fun r h2 => r = some (.int (whenR c p y t)) ∧ ∃ t2, h2 = PX f0 ++ hM nu tx ho pi rh rp pg t2 bk kp ik ta tp ga gr va rw) := by
  show Run X (d + 5) 0 0 M_Rf_when 0 [some (.ref 44), some (.int y), some (.int t), none] [] _ _
  have b1 := hc.1
  refine Run.aload_n d_Rf_when_0 rfl ?_
  refine Run.iconst (v := nI 0) d_Rf_when_1 ic_0 ?_
  refine Run.putf d_Rf_when_2 fl_Rf_59 (fun _ => rfl) (fun _ => rfl) (by first | rfl | assumption) (by exact Nat.le_of_ble_eq_true rfl) ?_
  refine run_hp (show _ = PX f0 ++ hM nu tx ho pi rh rp pg tr bk kp ik ta tp ga gr va rw from rfl) ?_
  refine Run.aload_n d_Rf_when_5 rfl ?_
  refine Run.iload_n d_Rf_when_6 rfl ?_
  refine Run.V1r d_Rf_when_7 lk_Rf_149 cm_Rf_noHolder iv_Rf_noHolder rfl (by first | rfl | assumption) (Nat.le_of_ble_eq_true rfl) (Nat.le_of_ble_eq_true rfl) (c_Rf_noHolder hc hr.at) ?_
  first | refine Run.if_eq_b d_Rf_when_10 (fun c10 => ?_) (fun c10 => ?_) | refine Run.if_eq_n d_Rf_when_10 (by omega) (fun c10 => ?_) (fun c10 => ?_) | refine Run.if_eq d_Rf_when_10 (fun c10 => ?_) (fun c10 => ?_)
  · rw [Bool.not_eq_false'] at c10
    obtain ⟨j, hj, rfl⟩ := inB_t (by omega) c10
    have tj : tn (nI j) = j := tn_nI (by omega)
    refine Run.iload_n d_Rf_when_15 rfl ?_
    refine Run.i2l d_Rf_when_16 ?_
    refine Run.lconst (v := 0) d_Rf_when_17 rfl ?_
    refine Run.ldc2 d_Rf_when_18 kn_Rf_175 ?_
    refine Run.S3r d_Rf_when_21 lk_Rf_66 cm_Rf_in st_Rf_in (Nat.le_of_ble_eq_true rfl) (Nat.le_of_ble_eq_true rfl) (c_Rf_in) ?_
    rw [in_B (n := 5) (by omega) (by decide +kernel)]
    first | refine Run.if_ne_b d_Rf_when_24 (fun c24 => ?_) (fun c24 => ?_) | refine Run.if_ne_n d_Rf_when_24 (by omega) (fun c24 => ?_) (fun c24 => ?_) | refine Run.if_ne d_Rf_when_24 (fun c24 => ?_) (fun c24 => ?_)
    · obtain ⟨z, hz, rfl⟩ := inB_t (n := 5) (by omega) c24
      have tz : tn (nI z) = z := tn_nI (by omega)
      refine Run.aload_n d_Rf_when_30 rfl ?_
      refine Run.V0 d_Rf_when_31 lk_Rf_183 cm_Rf_begin iv_Rf_begin rfl (by first | rfl | assumption) (Nat.le_of_ble_eq_true rfl) (Nat.le_of_ble_eq_true rfl) (q_Rf_begin) (fun r31 h31 q31 => ?_)
      obtain ⟨rfl, tr2, hb, rfl⟩ := q31
      have hg2 : PgV c p tr2 := ⟨fun i hi => by have b2 := hc.2.1; rw [hb i (by omega), hb (6 + i) (by omega)]; exact hg.1 i hi, by rw [hb 12 (by omega)]; exact hg.2.1, by rw [hb 13 (by omega)]; exact hg.2.2⟩
      rw [show whenR c p (nI j) (nI z) = oI (whenN c p j z) by rw [whenR, if_pos c10, if_pos c24, tj, tz]]
      refine Run.iconst (v := nI 0) d_Rf_when_34 ic_0 ?_
      refine Run.istore_n d_Rf_when_35 rfl rfl ?_
      show Run _ _ _ _ _ _ [_, _, _, _] _ _ _
      exact r_when36 hc hp hh hr hg2 hj hz
    · refine Run.bipush (v := -2) d_Rf_when_27 bp_m2 ?_
      refine Run.iret d_Rf_when_29 rfl rfl ?_
      exact ⟨by rw [whenR, if_pos c10, if_neg (by rw [c24]; decide)], tr, rfl⟩
  · rw [Bool.not_eq_true'] at c10
    refine Run.iconst (v := -1) d_Rf_when_13 ic_m1 ?_
    refine Run.iret d_Rf_when_14 rfl rfl ?_
    exact ⟨by rw [whenR, if_neg (by rw [c10]; decide)], tr, rfl⟩
end RRESTS
