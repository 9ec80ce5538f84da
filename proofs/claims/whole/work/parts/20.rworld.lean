/-! ===== the reference's methods that change what it holds ===== -/
section RWORLD
variable {X : Nat × (Nat → Int32)} {d : Nat} {c : CA} {p : PG} {f0 : Nat → AC} {nu : NuS} {tx ho pi rh rp pg tr bk kp ik ta tp ga gr va rw : FI} {z1 z2 z3 z4 z5 z6 z7 z8 z9 y1 y2 y3 y4 : Int32} {sd : Int64}
theorem q_Rf_write {x : Int32} {n : Nat} (hn : n ≤ 48) : Call X (d + 1) 0 0 M_Rf_write [.ref 44, .int x] (PX f0 ++ hM (nI n, z2, z3, z4, z5, z6, z7, z8, z9, sd, y1, y2, y3, y4) tx ho pi rh rp pg tr bk kp ik ta tp ga gr va rw) (Ret (.int (if inB x 256 = true then (if n < 48 then nI (n + 1) else -4) else -2)) (PX f0 ++ hM (if inB x 256 = true then (if n < 48 then nI (n + 1) else nI n) else nI n, z2, z3, z4, z5, z6, z7, z8, z9, sd, y1, y2, y3, y4) (if inB x 256 = true then (if n < 48 then upd tx n x else tx) else tx) ho pi rh rp pg tr bk kp ik ta tp ga gr va rw)) := by
  show Run X (d + 1) 0 0 M_Rf_write 0 [some (.ref 44), some (.int x)] [] _ _
  refine Run.aload_n d_Rf_write_0 rfl ?_
  refine Run.iconst (v := nI 0) d_Rf_write_1 ic_0 ?_
  refine Run.putf d_Rf_write_2 fl_Rf_59 (fun _ => rfl) (fun _ => rfl) (by first | rfl | assumption) (by exact Nat.le_of_ble_eq_true rfl) ?_
  refine run_hp (show _ = PX f0 ++ hM (nI n, z2, z3, z4, z5, z6, z7, z8, z9, sd, y1, y2, y3, y4) tx ho pi rh rp pg tr bk kp ik ta tp ga gr va rw from rfl) ?_
  refine Run.iload_n d_Rf_write_5 rfl ?_
  refine Run.i2l d_Rf_write_6 ?_
  refine Run.lconst (v := 0) d_Rf_write_7 rfl ?_
  refine Run.ldc2 d_Rf_write_8 kn_Rf_73 ?_
  refine Run.S3r d_Rf_write_11 lk_Rf_66 cm_Rf_in st_Rf_in (Nat.le_of_ble_eq_true rfl) (Nat.le_of_ble_eq_true rfl) (c_Rf_in) ?_
  rw [in_B (n := 256) (by omega) (by decide +kernel)]
  first | refine Run.if_ne_b d_Rf_write_14 (fun c14 => ?_) (fun c14 => ?_) | refine Run.if_ne_n d_Rf_write_14 (by omega) (fun c14 => ?_) (fun c14 => ?_) | refine Run.if_ne d_Rf_write_14 (fun c14 => ?_) (fun c14 => ?_)
  · refine Run.aload_n d_Rf_write_20 rfl ?_
    refine Run.getf d_Rf_write_21 fl_Rf_75 (by first | rfl | assumption) (by rfl) ?_
    refine Run.bipush (v := nI 48) d_Rf_write_24 bp_48 ?_
    first | refine Run.icmp_ne_n d_Rf_write_26 (by omega) (by omega) (fun c26 => ?_) (fun c26 => ?_) | refine Run.icmp_ne d_Rf_write_26 (fun c26 => ?_) (fun c26 => ?_)
    · refine Run.aload_n d_Rf_write_32 rfl ?_
      refine Run.getf d_Rf_write_33 fl_Rf_7 (by first | rfl | assumption) (by rfl) ?_
      refine Run.aload_n d_Rf_write_36 rfl ?_
      refine Run.getf d_Rf_write_37 fl_Rf_75 (by first | rfl | assumption) (by rfl) ?_
      refine Run.iload_n d_Rf_write_40 rfl ?_
      refine Run.iast_n d_Rf_write_41 (by first | rfl | assumption) (by omega) (by omega) ?_
      refine Run.aload_n d_Rf_write_42 rfl ?_
      refine Run.dup d_Rf_write_43 rfl ?_
      refine Run.getf d_Rf_write_44 fl_Rf_75 (by first | rfl | assumption) (by rfl) ?_
      refine Run.iconst (v := nI 1) d_Rf_write_47 ic_1 ?_
      first | refine Run.iadd_n d_Rf_write_48 ?_ | refine Run.iadd d_Rf_write_48 ?_
      refine Run.putf d_Rf_write_49 fl_Rf_75 (fun _ => rfl) (fun _ => rfl) (by first | rfl | assumption) (by exact Nat.le_of_ble_eq_true rfl) ?_
      refine Run.aload_n d_Rf_write_52 rfl ?_
      refine Run.getf d_Rf_write_53 fl_Rf_75 (by first | rfl | assumption) (by rfl) ?_
      refine Run.iret d_Rf_write_56 rfl rfl ?_
      first
      | (rw [c14]; exact ⟨rfl, rfl⟩)
      | (rw [c14, if_pos rfl, if_pos rfl, if_pos rfl, if_neg (by omega), if_neg (by omega), if_neg (by omega)]; exact ⟨rfl, rfl⟩)
      | (rw [c14, if_pos rfl, if_pos rfl, if_pos rfl, if_pos (by omega), if_pos (by omega), if_pos (by omega)]; exact ⟨rfl, rfl⟩)
    · refine Run.bipush (v := -4) d_Rf_write_29 bp_m4 ?_
      refine Run.iret d_Rf_write_31 rfl rfl ?_
      first
      | (rw [c14]; exact ⟨rfl, rfl⟩)
      | (rw [c14, if_pos rfl, if_pos rfl, if_pos rfl, if_neg (by omega), if_neg (by omega), if_neg (by omega)]; exact ⟨rfl, rfl⟩)
      | (rw [c14, if_pos rfl, if_pos rfl, if_pos rfl, if_pos (by omega), if_pos (by omega), if_pos (by omega)]; exact ⟨rfl, rfl⟩)
  · refine Run.bipush (v := -2) d_Rf_write_17 bp_m2 ?_
    refine Run.iret d_Rf_write_19 rfl rfl ?_
    first
    | (rw [c14]; exact ⟨rfl, rfl⟩)
    | (rw [c14, if_pos rfl, if_pos rfl, if_pos rfl, if_neg (by omega), if_neg (by omega), if_neg (by omega)]; exact ⟨rfl, rfl⟩)
    | (rw [c14, if_pos rfl, if_pos rfl, if_pos rfl, if_pos (by omega), if_pos (by omega), if_pos (by omega)]; exact ⟨rfl, rfl⟩)
theorem q_Rf_wipe : Call X d 0 0 M_Rf_wipe [.ref 44] (PX f0 ++ hM (z1, z2, z3, z4, z5, z6, z7, z8, z9, sd, y1, y2, y3, y4) tx ho pi rh rp pg tr bk kp ik ta tp ga gr va rw) (Ret (.int z1) (PX f0 ++ hM (nI 0, z2, z3, z4, z5, z6, z7, z8, z9, sd, y1, y2, y3, y4) tx ho pi rh rp pg tr bk kp ik ta tp ga gr va rw)) := by
  show Run X d 0 0 M_Rf_wipe 0 [some (.ref 44), none] [] _ _
  refine Run.aload_n d_Rf_wipe_0 rfl ?_
  refine Run.iconst (v := nI 0) d_Rf_wipe_1 ic_0 ?_
  refine Run.putf d_Rf_wipe_2 fl_Rf_59 (fun _ => rfl) (fun _ => rfl) (by first | rfl | assumption) (by exact Nat.le_of_ble_eq_true rfl) ?_
  refine Run.aload_n d_Rf_wipe_5 rfl ?_
  refine Run.getf d_Rf_wipe_6 fl_Rf_75 (by first | rfl | assumption) (by rfl) ?_
  refine Run.istore_n d_Rf_wipe_9 rfl rfl ?_
  show Run _ _ _ _ _ _ [_, _] _ _ _
  refine Run.aload_n d_Rf_wipe_10 rfl ?_
  refine Run.iconst (v := nI 0) d_Rf_wipe_11 ic_0 ?_
  refine Run.putf d_Rf_wipe_12 fl_Rf_75 (fun _ => rfl) (fun _ => rfl) (by first | rfl | assumption) (by exact Nat.le_of_ble_eq_true rfl) ?_
  refine Run.iload_n d_Rf_wipe_15 rfl ?_
  refine Run.iret d_Rf_wipe_16 rfl rfl ?_
  exact ⟨rfl, rfl⟩
theorem q_Rf_turn {x y : Int32} {n : Nat} (hn : n ≤ 6) : Call X (d + 1) 0 0 M_Rf_turn [.ref 44, .int x, .int y] (PX f0 ++ hM (z1, z2, z3, z4, z5, z6, z7, z8, nI n, sd, y1, y2, y3, y4) tx ho pi rh rp pg tr bk kp ik ta tp ga gr va rw) (Ret (.int (if (inB x 8 && inB y 6) = true then (if n < 6 then nI (n + 1) else -4) else -2)) (PX f0 ++ hM (z1, z2, z3, z4, z5, z6, z7, z8, if (inB x 8 && inB y 6) = true then (if n < 6 then nI (n + 1) else nI n) else nI n, sd, y1, y2, y3, y4) tx ho pi rh rp pg tr bk kp ik (if (inB x 8 && inB y 6) = true then (if n < 6 then upd ta n x else ta) else ta) (if (inB x 8 && inB y 6) = true then (if n < 6 then upd tp n y else tp) else tp) ga gr va rw)) := by
  show Run X (d + 1) 0 0 M_Rf_turn 0 [some (.ref 44), some (.int x), some (.int y)] [] _ _
  refine Run.aload_n d_Rf_turn_0 rfl ?_
  refine Run.iconst (v := nI 0) d_Rf_turn_1 ic_0 ?_
  refine Run.putf d_Rf_turn_2 fl_Rf_59 (fun _ => rfl) (fun _ => rfl) (by first | rfl | assumption) (by exact Nat.le_of_ble_eq_true rfl) ?_
  refine run_hp (show _ = PX f0 ++ hM (z1, z2, z3, z4, z5, z6, z7, z8, nI n, sd, y1, y2, y3, y4) tx ho pi rh rp pg tr bk kp ik ta tp ga gr va rw from rfl) ?_
  refine Run.iload_n d_Rf_turn_5 rfl ?_
  refine Run.i2l d_Rf_turn_6 ?_
  refine Run.lconst (v := 0) d_Rf_turn_7 rfl ?_
  refine Run.ldc2 d_Rf_turn_8 kn_Rf_159 ?_
  refine Run.S3r d_Rf_turn_11 lk_Rf_66 cm_Rf_in st_Rf_in (Nat.le_of_ble_eq_true rfl) (Nat.le_of_ble_eq_true rfl) (c_Rf_in) ?_
  rw [in_B (n := 8) (by omega) (by decide +kernel)]
  first | refine Run.if_eq_b d_Rf_turn_14 (fun c14 => ?_) (fun c14 => ?_) | refine Run.if_eq_n d_Rf_turn_14 (by omega) (fun c14 => ?_) (fun c14 => ?_) | refine Run.if_eq d_Rf_turn_14 (fun c14 => ?_) (fun c14 => ?_)
  · refine Run.bipush (v := -2) d_Rf_turn_29 bp_m2 ?_
    refine Run.iret d_Rf_turn_31 rfl rfl ?_
    first
    | (rw [c14, Bool.false_and]; exact ⟨rfl, rfl⟩)
    | (rw [c14, c26]; exact ⟨rfl, rfl⟩)
    | (rw [c14, c26]; simp only [Bool.and_self, if_true, if_neg (show ¬ n < 6 by omega)]; exact ⟨rfl, rfl⟩)
    | (rw [c14, c26]; simp only [Bool.and_self, if_true, if_pos (show n < 6 by omega)]; exact ⟨rfl, rfl⟩)
  · refine Run.iload_n d_Rf_turn_17 rfl ?_
    refine Run.i2l d_Rf_turn_18 ?_
    refine Run.lconst (v := 0) d_Rf_turn_19 rfl ?_
    refine Run.ldc2 d_Rf_turn_20 kn_Rf_217 ?_
    refine Run.S3r d_Rf_turn_23 lk_Rf_66 cm_Rf_in st_Rf_in (Nat.le_of_ble_eq_true rfl) (Nat.le_of_ble_eq_true rfl) (c_Rf_in) ?_
    rw [in_B (n := 6) (by omega) (by decide +kernel)]
    first | refine Run.if_ne_b d_Rf_turn_26 (fun c26 => ?_) (fun c26 => ?_) | refine Run.if_ne_n d_Rf_turn_26 (by omega) (fun c26 => ?_) (fun c26 => ?_) | refine Run.if_ne d_Rf_turn_26 (fun c26 => ?_) (fun c26 => ?_)
    · refine Run.aload_n d_Rf_turn_32 rfl ?_
      refine Run.getf d_Rf_turn_33 fl_Rf_146 (by first | rfl | assumption) (by rfl) ?_
      refine Run.bipush (v := nI 6) d_Rf_turn_36 bp_6 ?_
      first | refine Run.icmp_ne_n d_Rf_turn_38 (by omega) (by omega) (fun c38 => ?_) (fun c38 => ?_) | refine Run.icmp_ne d_Rf_turn_38 (fun c38 => ?_) (fun c38 => ?_)
      · refine Run.aload_n d_Rf_turn_44 rfl ?_
        refine Run.getf d_Rf_turn_45 fl_Rf_41 (by first | rfl | assumption) (by rfl) ?_
        refine Run.aload_n d_Rf_turn_48 rfl ?_
        refine Run.getf d_Rf_turn_49 fl_Rf_146 (by first | rfl | assumption) (by rfl) ?_
        refine Run.iload_n d_Rf_turn_52 rfl ?_
        refine Run.iast_n d_Rf_turn_53 (by first | rfl | assumption) (by omega) (by omega) ?_
        refine Run.aload_n d_Rf_turn_54 rfl ?_
        refine Run.getf d_Rf_turn_55 fl_Rf_44 (by first | rfl | assumption) (by rfl) ?_
        refine Run.aload_n d_Rf_turn_58 rfl ?_
        refine Run.getf d_Rf_turn_59 fl_Rf_146 (by first | rfl | assumption) (by rfl) ?_
        refine Run.iload_n d_Rf_turn_62 rfl ?_
        refine Run.iast_n d_Rf_turn_63 (by first | rfl | assumption) (by omega) (by omega) ?_
        refine Run.aload_n d_Rf_turn_64 rfl ?_
        refine Run.dup d_Rf_turn_65 rfl ?_
        refine Run.getf d_Rf_turn_66 fl_Rf_146 (by first | rfl | assumption) (by rfl) ?_
        refine Run.iconst (v := nI 1) d_Rf_turn_69 ic_1 ?_
        first | refine Run.iadd_n d_Rf_turn_70 ?_ | refine Run.iadd d_Rf_turn_70 ?_
        refine Run.putf d_Rf_turn_71 fl_Rf_146 (fun _ => rfl) (fun _ => rfl) (by first | rfl | assumption) (by exact Nat.le_of_ble_eq_true rfl) ?_
        refine Run.aload_n d_Rf_turn_74 rfl ?_
        refine Run.getf d_Rf_turn_75 fl_Rf_146 (by first | rfl | assumption) (by rfl) ?_
        refine Run.iret d_Rf_turn_78 rfl rfl ?_
        first
        | (rw [c14, Bool.false_and]; exact ⟨rfl, rfl⟩)
        | (rw [c14, c26]; exact ⟨rfl, rfl⟩)
        | (rw [c14, c26]; simp only [Bool.and_self, if_true, if_neg (show ¬ n < 6 by omega)]; exact ⟨rfl, rfl⟩)
        | (rw [c14, c26]; simp only [Bool.and_self, if_true, if_pos (show n < 6 by omega)]; exact ⟨rfl, rfl⟩)
      · refine Run.bipush (v := -4) d_Rf_turn_41 bp_m4 ?_
        refine Run.iret d_Rf_turn_43 rfl rfl ?_
        first
        | (rw [c14, Bool.false_and]; exact ⟨rfl, rfl⟩)
        | (rw [c14, c26]; exact ⟨rfl, rfl⟩)
        | (rw [c14, c26]; simp only [Bool.and_self, if_true, if_neg (show ¬ n < 6 by omega)]; exact ⟨rfl, rfl⟩)
        | (rw [c14, c26]; simp only [Bool.and_self, if_true, if_pos (show n < 6 by omega)]; exact ⟨rfl, rfl⟩)
    · refine Run.bipush (v := -2) d_Rf_turn_29 bp_m2 ?_
      refine Run.iret d_Rf_turn_31 rfl rfl ?_
      first
      | (rw [c14, Bool.false_and]; exact ⟨rfl, rfl⟩)
      | (rw [c14, c26]; exact ⟨rfl, rfl⟩)
      | (rw [c14, c26]; simp only [Bool.and_self, if_true, if_neg (show ¬ n < 6 by omega)]; exact ⟨rfl, rfl⟩)
      | (rw [c14, c26]; simp only [Bool.and_self, if_true, if_pos (show n < 6 by omega)]; exact ⟨rfl, rfl⟩)
theorem q_Rf_unturn : Call X d 0 0 M_Rf_unturn [.ref 44] (PX f0 ++ hM (z1, z2, z3, z4, z5, z6, z7, z8, z9, sd, y1, y2, y3, y4) tx ho pi rh rp pg tr bk kp ik ta tp ga gr va rw) (Ret (.int z9) (PX f0 ++ hM (z1, z2, z3, z4, z5, z6, z7, z8, nI 0, sd, y1, y2, y3, y4) tx ho pi rh rp pg tr bk kp ik ta tp ga gr va rw)) := by
  show Run X d 0 0 M_Rf_unturn 0 [some (.ref 44), none] [] _ _
  refine Run.aload_n d_Rf_unturn_0 rfl ?_
  refine Run.iconst (v := nI 0) d_Rf_unturn_1 ic_0 ?_
  refine Run.putf d_Rf_unturn_2 fl_Rf_59 (fun _ => rfl) (fun _ => rfl) (by first | rfl | assumption) (by exact Nat.le_of_ble_eq_true rfl) ?_
  refine Run.aload_n d_Rf_unturn_5 rfl ?_
  refine Run.getf d_Rf_unturn_6 fl_Rf_146 (by first | rfl | assumption) (by rfl) ?_
  refine Run.istore_n d_Rf_unturn_9 rfl rfl ?_
  show Run _ _ _ _ _ _ [_, _] _ _ _
  refine Run.aload_n d_Rf_unturn_10 rfl ?_
  refine Run.iconst (v := nI 0) d_Rf_unturn_11 ic_0 ?_
  refine Run.putf d_Rf_unturn_12 fl_Rf_146 (fun _ => rfl) (fun _ => rfl) (by first | rfl | assumption) (by exact Nat.le_of_ble_eq_true rfl) ?_
  refine Run.iload_n d_Rf_unturn_15 rfl ?_
  refine Run.iret d_Rf_unturn_16 rfl rfl ?_
  exact ⟨rfl, rfl⟩
theorem q_Rf_seed {v : Int64} : Call X d 0 0 M_Rf_seed [.ref 44, .long v] (PX f0 ++ hM (z1, z2, z3, z4, z5, z6, z7, z8, z9, sd, y1, y2, y3, y4) tx ho pi rh rp pg tr bk kp ik ta tp ga gr va rw) (Ret (.long sd) (PX f0 ++ hM (z1, z2, z3, z4, z5, z6, z7, z8, z9, v, y1, y2, y3, y4) tx ho pi rh rp pg tr bk kp ik ta tp ga gr va rw)) := by
  show Run X d 0 0 M_Rf_seed 0 [some (.ref 44), some (.long v), none, none, none] [] _ _
  refine Run.aload_n d_Rf_seed_0 rfl ?_
  refine Run.iconst (v := nI 0) d_Rf_seed_1 ic_0 ?_
  refine Run.putf d_Rf_seed_2 fl_Rf_59 (fun _ => rfl) (fun _ => rfl) (by first | rfl | assumption) (by exact Nat.le_of_ble_eq_true rfl) ?_
  refine Run.aload_n d_Rf_seed_5 rfl ?_
  refine Run.getf d_Rf_seed_6 fl_Rf_244 (by first | rfl | assumption) (by rfl) ?_
  refine Run.lstore_n d_Rf_seed_9 rfl rfl ?_
  show Run _ _ _ _ _ _ [_, _, _, _, _] _ _ _
  refine Run.aload_n d_Rf_seed_10 rfl ?_
  refine Run.lload_n d_Rf_seed_11 rfl ?_
  refine Run.putf d_Rf_seed_12 fl_Rf_244 (fun _ => rfl) (fun _ => rfl) (by first | rfl | assumption) (by exact Nat.le_of_ble_eq_true rfl) ?_
  refine Run.lload_n d_Rf_seed_15 rfl ?_
  refine Run.lret d_Rf_seed_16 rfl ?_
  exact ⟨rfl, rfl⟩
theorem q_Rf_goHour {k : Nat} {h : AH} {f : FI} {l hh : Nat} (h0 : h[k]? = some (.inl (.int, 14, .inl f))) (hl : f 12 = nI l) (hh0 : f 13 = nI hh) (hl8 : l < 8) : Call X d 0 0 M_Rf_goHour [.ref (k + 1)] h (Rv (h.set k (.inl (.int, 14, .inl (upd (upd f 12 (nI ((l + 1) % 8))) 13 (nI (hh + 1))))))) := by
  show Run X d 0 0 M_Rf_goHour 0 [some (.ref (k + 1))] [] h _
  refine Run.aload_n d_Rf_goHour_0 rfl ?_
  refine Run.bipush (v := nI 12) d_Rf_goHour_1 bp_12 ?_
  refine Run.aload_n d_Rf_goHour_3 rfl ?_
  refine Run.bipush (v := nI 12) d_Rf_goHour_4 bp_12 ?_
  refine Run.iald_n d_Rf_goHour_6 (by repeat (first | assumption | exact isS (by assumption) | apply gs2 | apply isn | refine gn (by omega) ?_)) (by omega) (by omega) ?_
  rw [hl]
  refine Run.iconst (v := nI 1) d_Rf_goHour_7 ic_1 ?_
  first | refine Run.iadd_n d_Rf_goHour_8 ?_ | refine Run.iadd d_Rf_goHour_8 ?_
  refine Run.bipush (v := nI 8) d_Rf_goHour_9 bp_8 ?_
  first | refine Run.irem_n d_Rf_goHour_11 (by omega) (by omega) (by omega) ?_ | refine Run.irem d_Rf_goHour_11 (by decide +kernel) ?_
  refine Run.iast_n d_Rf_goHour_12 (by repeat (first | assumption | exact isS (by assumption) | apply gs2 | apply isn | refine gn (by omega) ?_)) (by omega) (by omega) ?_
  refine Run.aload_n d_Rf_goHour_13 rfl ?_
  refine Run.bipush (v := nI 13) d_Rf_goHour_14 bp_13 ?_
  refine Run.dup2 d_Rf_goHour_16 rfl rfl ?_
  refine Run.iald_n d_Rf_goHour_17 (by repeat (first | assumption | exact isS (by assumption) | apply gs2 | apply isn | refine gn (by omega) ?_)) (by omega) (by omega) ?_
  rw [pk_un (by omega), hh0]
  refine Run.iconst (v := nI 1) d_Rf_goHour_18 ic_1 ?_
  first | refine Run.iadd_n d_Rf_goHour_19 ?_ | refine Run.iadd d_Rf_goHour_19 ?_
  refine Run.iast_n d_Rf_goHour_20 (by repeat (first | assumption | exact isS (by assumption) | apply gs2 | apply isn | refine gn (by omega) ?_)) (by omega) (by omega) ?_
  refine Run.vret d_Rf_goHour_21 rfl ?_
  exact ⟨rfl, by rw [ss]⟩
theorem q_Rf_goTilt {k i T : Nat} {b : Bool} {h : AH} {f : FI} (h0 : h[k]? = some (.inl (.int, 14, .inl f))) (hi : i < 6) (hT : f i = nI T) (hT8 : T < 8) : Call X d 0 0 M_Rf_goTilt [.ref (k + 1), .int (nI i), .int (bI b)] h (Rv (h.set k (.inl (.int, 14, .inl (upd f i (nI (tiN T b))))))) := by
  show Run X d 0 0 M_Rf_goTilt 0 [some (.ref (k + 1)), some (.int (nI i)), some (.int (bI b))] [] h _
  have e0 : 0 + i = i := by omega
  cases b with
  | true =>
    refine Run.aload_n d_Rf_goTilt_0 rfl ?_
    refine Run.iconst (v := nI 0) d_Rf_goTilt_1 ic_0 ?_
    refine Run.iload_n d_Rf_goTilt_2 rfl ?_
    first | refine Run.iadd_n d_Rf_goTilt_3 ?_ | refine Run.iadd d_Rf_goTilt_3 ?_
    rw [e0]
    refine Run.aload_n d_Rf_goTilt_4 rfl ?_
    refine Run.iconst (v := nI 0) d_Rf_goTilt_5 ic_0 ?_
    refine Run.iload_n d_Rf_goTilt_6 rfl ?_
    first | refine Run.iadd_n d_Rf_goTilt_7 ?_ | refine Run.iadd d_Rf_goTilt_7 ?_
    rw [e0]
    refine Run.iald_n d_Rf_goTilt_8 (by repeat (first | assumption | exact isS (by assumption) | apply gs2 | apply isn | refine gn (by omega) ?_)) (by omega) (by omega) ?_
    rw [hT]
    refine Run.iload_n d_Rf_goTilt_9 rfl ?_
    first | refine Run.if_eq_b d_Rf_goTilt_10 (fun c10 => ?_) (fun c10 => ?_) | refine Run.if_eq_n d_Rf_goTilt_10 (by omega) (fun c10 => ?_) (fun c10 => ?_) | refine Run.if_eq d_Rf_goTilt_10 (fun c10 => ?_) (fun c10 => ?_)
    · cases c10
    · refine Run.iconst (v := nI 1) d_Rf_goTilt_13 ic_1 ?_
      refine Run.goto d_Rf_goTilt_14 ?_
      first | refine Run.iadd_n d_Rf_goTilt_19 ?_ | refine Run.iadd d_Rf_goTilt_19 ?_
      refine Run.bipush (v := nI 8) d_Rf_goTilt_20 bp_8 ?_
      first | refine Run.irem_n d_Rf_goTilt_22 (by omega) (by omega) (by omega) ?_ | refine Run.irem d_Rf_goTilt_22 (by decide +kernel) ?_
      refine Run.iast_n d_Rf_goTilt_23 (by repeat (first | assumption | exact isS (by assumption) | apply gs2 | apply isn | refine gn (by omega) ?_)) (by omega) (by omega) ?_
      refine Run.vret d_Rf_goTilt_24 rfl ?_
      exact ⟨rfl, rfl⟩
  | false =>
    refine Run.aload_n d_Rf_goTilt_0 rfl ?_
    refine Run.iconst (v := nI 0) d_Rf_goTilt_1 ic_0 ?_
    refine Run.iload_n d_Rf_goTilt_2 rfl ?_
    first | refine Run.iadd_n d_Rf_goTilt_3 ?_ | refine Run.iadd d_Rf_goTilt_3 ?_
    rw [e0]
    refine Run.aload_n d_Rf_goTilt_4 rfl ?_
    refine Run.iconst (v := nI 0) d_Rf_goTilt_5 ic_0 ?_
    refine Run.iload_n d_Rf_goTilt_6 rfl ?_
    first | refine Run.iadd_n d_Rf_goTilt_7 ?_ | refine Run.iadd d_Rf_goTilt_7 ?_
    rw [e0]
    refine Run.iald_n d_Rf_goTilt_8 (by repeat (first | assumption | exact isS (by assumption) | apply gs2 | apply isn | refine gn (by omega) ?_)) (by omega) (by omega) ?_
    rw [hT]
    refine Run.iload_n d_Rf_goTilt_9 rfl ?_
    first | refine Run.if_eq_b d_Rf_goTilt_10 (fun c10 => ?_) (fun c10 => ?_) | refine Run.if_eq_n d_Rf_goTilt_10 (by omega) (fun c10 => ?_) (fun c10 => ?_) | refine Run.if_eq d_Rf_goTilt_10 (fun c10 => ?_) (fun c10 => ?_)
    · refine Run.bipush (v := nI 7) d_Rf_goTilt_17 bp_7 ?_
      first | refine Run.iadd_n d_Rf_goTilt_19 ?_ | refine Run.iadd d_Rf_goTilt_19 ?_
      refine Run.bipush (v := nI 8) d_Rf_goTilt_20 bp_8 ?_
      first | refine Run.irem_n d_Rf_goTilt_22 (by omega) (by omega) (by omega) ?_ | refine Run.irem d_Rf_goTilt_22 (by decide +kernel) ?_
      refine Run.iast_n d_Rf_goTilt_23 (by repeat (first | assumption | exact isS (by assumption) | apply gs2 | apply isn | refine gn (by omega) ?_)) (by omega) (by omega) ?_
      refine Run.vret d_Rf_goTilt_24 rfl ?_
      exact ⟨rfl, rfl⟩
    · cases c10
theorem q_Rf_begin : Call X d 0 0 M_Rf_begin [.ref 44] (PX f0 ++ hM nu tx ho pi rh rp pg tr bk kp ik ta tp ga gr va rw) (fun r h2 => r = none ∧ ∃ tr2, (∀ j, j < 14 → tr2 j = pg j) ∧ h2 = PX f0 ++ hM nu tx ho pi rh rp pg tr2 bk kp ik ta tp ga gr va rw) := by
  show Run X d 0 0 M_Rf_begin 0 [some (.ref 44), none] [] _ _
  refine Run.iconst (v := nI 0) d_Rf_begin_0 ic_0 ?_
  refine Run.istore_n d_Rf_begin_1 rfl rfl ?_
  show Run _ _ _ _ _ _ [_, _] _ _ _
  refine upto 14 (fun i => ∀ tr2 : FI, (∀ j, j < i → tr2 j = pg j) → Run X d 0 0 M_Rf_begin 2 [some (.ref 44), some (.int (nI i))] [] (PX f0 ++ hM nu tx ho pi rh rp pg tr2 bk kp ik ta tp ga gr va rw) (fun r h2 => r = none ∧ ∃ tr2, (∀ j, j < 14 → tr2 j = pg j) ∧ h2 = PX f0 ++ hM nu tx ho pi rh rp pg tr2 bk kp ik ta tp ga gr va rw)) ?_ 0 (Nat.zero_le _) tr (fun j hj => by omega)
  intro i hi ih tr2 he
  refine Run.iload_n d_Rf_begin_2 rfl ?_
  refine Run.bipush (v := nI 14) d_Rf_begin_3 bp_14 ?_
  first | refine Run.icmp_ge_n d_Rf_begin_5 (by omega) (by omega) (fun c5 => ?_) (fun c5 => ?_) | refine Run.icmp_ge d_Rf_begin_5 (fun c5 => ?_) (fun c5 => ?_)
  · refine Run.vret d_Rf_begin_26 rfl ?_
    exact ⟨rfl, tr2, fun j hj => he j (by omega), rfl⟩
  · refine Run.aload_n d_Rf_begin_8 rfl ?_
    refine Run.getf d_Rf_begin_9 fl_Rf_28 (by first | rfl | assumption) (by rfl) ?_
    refine Run.iload_n d_Rf_begin_12 rfl ?_
    refine Run.aload_n d_Rf_begin_13 rfl ?_
    refine Run.getf d_Rf_begin_14 fl_Rf_25 (by first | rfl | assumption) (by rfl) ?_
    refine Run.iload_n d_Rf_begin_17 rfl ?_
    refine Run.iald_n d_Rf_begin_18 (by first | rfl | assumption) (by omega) (by omega) ?_
    refine Run.iast_n d_Rf_begin_19 (by first | rfl | assumption) (by omega) (by omega) ?_
    first | refine Run.iinc_n d_Rf_begin_20 ic_1 rfl rfl ?_ | refine Run.iinc d_Rf_begin_20 rfl rfl rfl ?_
    show Run _ _ _ _ _ _ [_, _] _ _ _
    refine Run.goto d_Rf_begin_23 ?_
    refine ih c5 (upd tr2 i (pg i)) (fun j hj => ?_)
    by_cases hji : j = i
    · subst hji; exact pk_us
    · rw [pk_un hji]; exact he j (by omega)
/-- the book with one page more -/
def BkA (bk pg bk2 : FI) (n n2 : Nat) : Prop := (n < 14 ∧ n2 = n + 1 ∧ (∀ j, j < 14 * n → bk2 j = bk j) ∧ ∀ j, j < 14 → bk2 (14 * n + j) = pg j) ∨ (n = 14 ∧ n2 = 14 ∧ (∀ j, j < 182 → bk2 j = bk (j + 14)) ∧ ∀ j, j < 14 → bk2 (182 + j) = pg j)
theorem q_Rf_note {n : Nat} (hn : n ≤ 14) : Call X d 0 0 M_Rf_note [.ref 44] (PX f0 ++ hM (z1, z2, z3, z4, z5, z6, z7, nI n, z9, sd, y1, y2, y3, y4) tx ho pi rh rp pg tr bk kp ik ta tp ga gr va rw) (fun r h2 => r = none ∧ ∃ bk2 n2, BkA bk pg bk2 n n2 ∧ h2 = PX f0 ++ hM (z1, z2, z3, z4, z5, z6, z7, nI n2, z9, sd, y1, y2, y3, y4) tx ho pi rh rp pg tr bk2 kp ik ta tp ga gr va rw) := by
  show Run X d 0 0 M_Rf_note 0 [some (.ref 44), none] [] _ _
  have h51 : ∀ (m : Nat) (bkA : FI), m < 14 → (∀ bk2, (∀ j, j < 14 * m → bk2 j = bkA j) → (∀ j, j < 14 → bk2 (14 * m + j) = pg j) → BkA bk pg bk2 n (m + 1)) → Run X d 0 0 M_Rf_note 51 [some (.ref 44), some (.int (nI 0))] [] (PX f0 ++ hM (z1, z2, z3, z4, z5, z6, z7, nI m, z9, sd, y1, y2, y3, y4) tx ho pi rh rp pg tr bkA kp ik ta tp ga gr va rw) (fun r h2 => r = none ∧ ∃ bk2 n2, BkA bk pg bk2 n n2 ∧ h2 = PX f0 ++ hM (z1, z2, z3, z4, z5, z6, z7, nI n2, z9, sd, y1, y2, y3, y4) tx ho pi rh rp pg tr bk2 kp ik ta tp ga gr va rw) := by
    intro m bkA hm hend
    refine upto 14 (fun i => ∀ bk2 : FI, (∀ j, j < 14 * m → bk2 j = bkA j) → (∀ j, j < i → bk2 (14 * m + j) = pg j) → Run X d 0 0 M_Rf_note 51 [some (.ref 44), some (.int (nI i))] [] (PX f0 ++ hM (z1, z2, z3, z4, z5, z6, z7, nI m, z9, sd, y1, y2, y3, y4) tx ho pi rh rp pg tr bk2 kp ik ta tp ga gr va rw) (fun r h2 => r = none ∧ ∃ bk2 n2, BkA bk pg bk2 n n2 ∧ h2 = PX f0 ++ hM (z1, z2, z3, z4, z5, z6, z7, nI n2, z9, sd, y1, y2, y3, y4) tx ho pi rh rp pg tr bk2 kp ik ta tp ga gr va rw)) ?_ 0 (Nat.zero_le _) bkA (fun j hj => rfl) (fun j hj => by omega)
    intro i hi ih bk2 he1 he2
    refine Run.iload_n d_Rf_note_51 rfl ?_
    refine Run.bipush (v := nI 14) d_Rf_note_52 bp_14 ?_
    first | refine Run.icmp_ge_n d_Rf_note_54 (by omega) (by omega) (fun c54 => ?_) (fun c54 => ?_) | refine Run.icmp_ge d_Rf_note_54 (fun c54 => ?_) (fun c54 => ?_)
    · refine Run.aload_n d_Rf_note_83 rfl ?_
      refine Run.dup d_Rf_note_84 rfl ?_
      refine Run.getf d_Rf_note_85 fl_Rf_108 (by first | rfl | assumption) (by rfl) ?_
      refine Run.iconst (v := nI 1) d_Rf_note_88 ic_1 ?_
      first | refine Run.iadd_n d_Rf_note_89 ?_ | refine Run.iadd d_Rf_note_89 ?_
      refine Run.putf d_Rf_note_90 fl_Rf_108 (fun _ => rfl) (fun _ => rfl) (by first | rfl | assumption) (by exact Nat.le_of_ble_eq_true rfl) ?_
      refine Run.vret d_Rf_note_93 rfl ?_
      exact ⟨rfl, bk2, m + 1, hend bk2 he1 (fun j hj => he2 j (by omega)), rfl⟩
    · refine Run.aload_n d_Rf_note_57 rfl ?_
      refine Run.getf d_Rf_note_58 fl_Rf_31 (by first | rfl | assumption) (by rfl) ?_
      refine Run.bipush (v := nI 14) d_Rf_note_61 bp_14 ?_
      refine Run.aload_n d_Rf_note_63 rfl ?_
      refine Run.getf d_Rf_note_64 fl_Rf_108 (by first | rfl | assumption) (by rfl) ?_
      first | refine Run.imul_n d_Rf_note_67 ?_ | refine Run.imul d_Rf_note_67 ?_
      refine Run.iload_n d_Rf_note_68 rfl ?_
      first | refine Run.iadd_n d_Rf_note_69 ?_ | refine Run.iadd d_Rf_note_69 ?_
      refine Run.aload_n d_Rf_note_70 rfl ?_
      refine Run.getf d_Rf_note_71 fl_Rf_25 (by first | rfl | assumption) (by rfl) ?_
      refine Run.iload_n d_Rf_note_74 rfl ?_
      refine Run.iald_n d_Rf_note_75 (by first | rfl | assumption) (by omega) (by omega) ?_
      refine Run.iast_n d_Rf_note_76 (by first | rfl | assumption) (by omega) (by omega) ?_
      first | refine Run.iinc_n d_Rf_note_77 ic_1 rfl rfl ?_ | refine Run.iinc d_Rf_note_77 rfl rfl rfl ?_
      show Run _ _ _ _ _ _ [_, _] _ _ _
      refine Run.goto d_Rf_note_80 ?_
      refine ih c54 (upd bk2 (14 * m + i) (pg i)) (fun j hj => ?_) (fun j hj => ?_)
      · rw [pk_un (by omega)]; exact he1 j hj
      · by_cases hji : j = i
        · subst hji; exact pk_us
        · rw [pk_un (by omega)]; exact he2 j (by omega)
  have h11 : n = 14 → Run X d 0 0 M_Rf_note 11 [some (.ref 44), some (.int (nI 0))] [] (PX f0 ++ hM (z1, z2, z3, z4, z5, z6, z7, nI n, z9, sd, y1, y2, y3, y4) tx ho pi rh rp pg tr bk kp ik ta tp ga gr va rw) (fun r h2 => r = none ∧ ∃ bk2 n2, BkA bk pg bk2 n n2 ∧ h2 = PX f0 ++ hM (z1, z2, z3, z4, z5, z6, z7, nI n2, z9, sd, y1, y2, y3, y4) tx ho pi rh rp pg tr bk2 kp ik ta tp ga gr va rw) := by
    intro hn14
    refine upto 182 (fun i => ∀ bk2 : FI, (∀ j, j < i → bk2 j = bk (j + 14)) → (∀ j, i ≤ j → bk2 j = bk j) → Run X d 0 0 M_Rf_note 11 [some (.ref 44), some (.int (nI i))] [] (PX f0 ++ hM (z1, z2, z3, z4, z5, z6, z7, nI n, z9, sd, y1, y2, y3, y4) tx ho pi rh rp pg tr bk2 kp ik ta tp ga gr va rw) (fun r h2 => r = none ∧ ∃ bk2 n2, BkA bk pg bk2 n n2 ∧ h2 = PX f0 ++ hM (z1, z2, z3, z4, z5, z6, z7, nI n2, z9, sd, y1, y2, y3, y4) tx ho pi rh rp pg tr bk2 kp ik ta tp ga gr va rw)) ?_ 0 (Nat.zero_le _) bk (fun j hj => by omega) (fun j hj => rfl)
    intro i hi ih bk2 he1 he2
    refine Run.iload_n d_Rf_note_11 rfl ?_
    refine Run.sipush (v := nI 182) d_Rf_note_12 sp_182 ?_
    first | refine Run.icmp_ge_n d_Rf_note_15 (by omega) (by omega) (fun c15 => ?_) (fun c15 => ?_) | refine Run.icmp_ge d_Rf_note_15 (fun c15 => ?_) (fun c15 => ?_)
    · refine Run.aload_n d_Rf_note_39 rfl ?_
      refine Run.dup d_Rf_note_40 rfl ?_
      refine Run.getf d_Rf_note_41 fl_Rf_108 (by first | rfl | assumption) (by rfl) ?_
      refine Run.iconst (v := nI 1) d_Rf_note_44 ic_1 ?_
      first | refine Run.isub_n d_Rf_note_45 (by omega) ?_ | refine Run.isub d_Rf_note_45 ?_
      refine Run.putf d_Rf_note_46 fl_Rf_108 (fun _ => rfl) (fun _ => rfl) (by first | rfl | assumption) (by exact Nat.le_of_ble_eq_true rfl) ?_
      refine Run.iconst (v := nI 0) d_Rf_note_49 ic_0 ?_
      refine Run.istore_n d_Rf_note_50 rfl rfl ?_
      show Run _ _ _ _ _ _ [_, _] _ _ _
      refine run_hp (show _ = PX f0 ++ hM (z1, z2, z3, z4, z5, z6, z7, nI (n - 1), z9, sd, y1, y2, y3, y4) tx ho pi rh rp pg tr bk2 kp ik ta tp ga gr va rw from rfl) ?_
      rw [show n - 1 = 13 by omega]
      exact h51 13 bk2 (by omega) (fun bk3 e1 e2 => Or.inr ⟨hn14, rfl, fun j hj => by rw [e1 j (by omega)]; exact he1 j (by omega), fun j hj => e2 j hj⟩)
    · refine Run.aload_n d_Rf_note_18 rfl ?_
      refine Run.getf d_Rf_note_19 fl_Rf_31 (by first | rfl | assumption) (by rfl) ?_
      refine Run.iload_n d_Rf_note_22 rfl ?_
      refine Run.aload_n d_Rf_note_23 rfl ?_
      refine Run.getf d_Rf_note_24 fl_Rf_31 (by first | rfl | assumption) (by rfl) ?_
      refine Run.iload_n d_Rf_note_27 rfl ?_
      refine Run.bipush (v := nI 14) d_Rf_note_28 bp_14 ?_
      first | refine Run.iadd_n d_Rf_note_30 ?_ | refine Run.iadd d_Rf_note_30 ?_
      refine Run.iald_n d_Rf_note_31 (by first | rfl | assumption) (by omega) (by omega) ?_
      refine Run.iast_n d_Rf_note_32 (by first | rfl | assumption) (by omega) (by omega) ?_
      first | refine Run.iinc_n d_Rf_note_33 ic_1 rfl rfl ?_ | refine Run.iinc d_Rf_note_33 rfl rfl rfl ?_
      show Run _ _ _ _ _ _ [_, _] _ _ _
      refine Run.goto d_Rf_note_36 ?_
      refine ih c15 (upd bk2 i (bk2 (i + 14))) (fun j hj => ?_) (fun j hj => ?_)
      · by_cases hji : j = i
        · subst hji; rw [pk_us]; exact he2 _ (by omega)
        · rw [pk_un hji]; exact he1 j (by omega)
      · rw [pk_un (by omega)]; exact he2 j (by omega)
  refine Run.aload_n d_Rf_note_0 rfl ?_
  refine Run.getf d_Rf_note_1 fl_Rf_108 (by first | rfl | assumption) (by rfl) ?_
  refine Run.bipush (v := nI 14) d_Rf_note_4 bp_14 ?_
  first | refine Run.icmp_ne_n d_Rf_note_6 (by omega) (by omega) (fun c6 => ?_) (fun c6 => ?_) | refine Run.icmp_ne d_Rf_note_6 (fun c6 => ?_) (fun c6 => ?_)
  · refine Run.iconst (v := nI 0) d_Rf_note_49 ic_0 ?_
    refine Run.istore_n d_Rf_note_50 rfl rfl ?_
    show Run _ _ _ _ _ _ [_, _] _ _ _
    exact h51 n bk (by omega) (fun bk2 e1 e2 => Or.inl ⟨by omega, rfl, e1, e2⟩)
  · refine Run.iconst (v := nI 0) d_Rf_note_9 ic_0 ?_
    refine Run.istore_n d_Rf_note_10 rfl rfl ?_
    show Run _ _ _ _ _ _ [_, _] _ _ _
    exact h11 c6
theorem q_Rf_hour {n l hh : Nat} (hn : n ≤ 14) (hl : pg 12 = nI l) (hh0 : pg 13 = nI hh) (hl8 : l < 8) : Call X (d + 1) 0 0 M_Rf_hour [.ref 44] (PX f0 ++ hM (z1, z2, z3, z4, z5, z6, z7, nI n, z9, sd, y1, y2, y3, y4) tx ho pi rh rp pg tr bk kp ik ta tp ga gr va rw) (fun r h2 => r = some (.int (nI ((l + 1) % 8))) ∧ ∃ bk2 n2, BkA bk pg bk2 n n2 ∧ h2 = PX f0 ++ hM (z1, z2, z3, z4, z5, z6, z7, nI n2, z9, sd, y1, y2, y3, y4) tx ho pi rh rp (upd (upd pg 12 (nI ((l + 1) % 8))) 13 (nI (hh + 1))) tr bk2 kp ik ta tp ga gr va rw) := by
  show Run X (d + 1) 0 0 M_Rf_hour 0 [some (.ref 44)] [] _ _
  refine Run.aload_n d_Rf_hour_0 rfl ?_
  refine Run.iconst (v := nI 0) d_Rf_hour_1 ic_0 ?_
  refine Run.putf d_Rf_hour_2 fl_Rf_59 (fun _ => rfl) (fun _ => rfl) (by first | rfl | assumption) (by exact Nat.le_of_ble_eq_true rfl) ?_
  refine run_hp (show _ = PX f0 ++ hM (z1, z2, z3, z4, z5, z6, z7, nI n, z9, sd, y1, y2, y3, y4) tx ho pi rh rp pg tr bk kp ik ta tp ga gr va rw from rfl) ?_
  refine Run.aload_n d_Rf_hour_5 rfl ?_
  refine Run.V0 d_Rf_hour_6 lk_Rf_161 cm_Rf_note iv_Rf_note rfl (by first | rfl | assumption) (Nat.le_of_ble_eq_true rfl) (Nat.le_of_ble_eq_true rfl) (q_Rf_note hn) (fun r6 h6 q6 => ?_)
  obtain ⟨rfl, bk2, n2, hb, rfl⟩ := q6
  refine Run.aload_n d_Rf_hour_9 rfl ?_
  refine Run.getf d_Rf_hour_10 fl_Rf_25 (by first | rfl | assumption) (by rfl) ?_
  refine Run.S1v d_Rf_hour_13 lk_Rf_168 cm_Rf_goHour st_Rf_goHour (Nat.le_of_ble_eq_true rfl) (Nat.le_of_ble_eq_true rfl) (q_Rf_goHour (k := 49) rfl hl hh0 hl8) ?_
  refine Run.aload_n d_Rf_hour_16 rfl ?_
  refine Run.getf d_Rf_hour_17 fl_Rf_25 (by first | rfl | assumption) (by rfl) ?_
  refine Run.bipush (v := nI 12) d_Rf_hour_20 bp_12 ?_
  refine Run.iald_n d_Rf_hour_22 (by first | rfl | assumption) (by omega) (by omega) ?_
  rw [pk_un (by omega), pk_us]
  refine Run.iret d_Rf_hour_23 rfl rfl ?_
  exact ⟨rfl, bk2, n2, hb, rfl⟩
theorem q_Rf_tilt0 {x : Int32} {b : Bool} (hc : coOK c) (hr : RfAt (PX f0 ++ hM nu tx ho pi rh rp pg tr bk kp ik ta tp ga gr va rw) c) (hx : inB x (npC c) = false) : Call X (d + 2) 0 0 M_Rf_tilt [.ref 44, .int x, .int (bI b)] (PX f0 ++ hM nu tx ho pi rh rp pg tr bk kp ik ta tp ga gr va rw) (Ret (.int (-1)) (PX f0 ++ hM nu tx ho pi rh rp pg tr bk kp ik ta tp ga gr va rw)) := by
  show Run X (d + 2) 0 0 M_Rf_tilt 0 [some (.ref 44), some (.int x), some (.int (bI b))] [] _ _
  refine Run.aload_n d_Rf_tilt_0 rfl ?_
  refine Run.iconst (v := nI 0) d_Rf_tilt_1 ic_0 ?_
  refine Run.putf d_Rf_tilt_2 fl_Rf_59 (fun _ => rfl) (fun _ => rfl) (by first | rfl | assumption) (by exact Nat.le_of_ble_eq_true rfl) ?_
  refine run_hp (show _ = PX f0 ++ hM nu tx ho pi rh rp pg tr bk kp ik ta tp ga gr va rw from rfl) ?_
  refine Run.aload_n d_Rf_tilt_5 rfl ?_
  refine Run.iload_n d_Rf_tilt_6 rfl ?_
  refine Run.V1r d_Rf_tilt_7 lk_Rf_156 cm_Rf_noPiece iv_Rf_noPiece rfl (by first | rfl | assumption) (Nat.le_of_ble_eq_true rfl) (Nat.le_of_ble_eq_true rfl) (c_Rf_noPiece hc hr) ?_
  first | refine Run.if_eq_b d_Rf_tilt_10 (fun c10 => ?_) (fun c10 => ?_) | refine Run.if_eq_n d_Rf_tilt_10 (by omega) (fun c10 => ?_) (fun c10 => ?_) | refine Run.if_eq d_Rf_tilt_10 (fun c10 => ?_) (fun c10 => ?_)
  · rw [hx] at c10; cases c10
  · refine Run.iconst (v := -1) d_Rf_tilt_13 ic_m1 ?_
    refine Run.iret d_Rf_tilt_14 rfl rfl ?_
    exact ⟨rfl, rfl⟩
theorem q_Rf_tilt {i T n : Nat} {b : Bool} (hc : coOK c) (hr : RfAt (PX f0 ++ hM (z1, z2, z3, z4, z5, z6, z7, nI n, z9, sd, y1, y2, y3, y4) tx ho pi rh rp pg tr bk kp ik ta tp ga gr va rw) c) (hi : i < npC c) (hn : n ≤ 14) (hT : pg i = nI T) (hT8 : T < 8) : Call X (d + 2) 0 0 M_Rf_tilt [.ref 44, .int (nI i), .int (bI b)] (PX f0 ++ hM (z1, z2, z3, z4, z5, z6, z7, nI n, z9, sd, y1, y2, y3, y4) tx ho pi rh rp pg tr bk kp ik ta tp ga gr va rw) (fun r h2 => r = some (.int (nI (tiN T b))) ∧ ∃ bk2 n2, BkA bk pg bk2 n n2 ∧ h2 = PX f0 ++ hM (z1, z2, z3, z4, z5, z6, z7, nI n2, z9, sd, y1, y2, y3, y4) tx ho pi rh rp (upd pg i (nI (tiN T b))) tr bk2 kp ik ta tp ga gr va rw) := by
  show Run X (d + 2) 0 0 M_Rf_tilt 0 [some (.ref 44), some (.int (nI i)), some (.int (bI b))] [] _ _
  have b2 := hc.2.1
  refine Run.aload_n d_Rf_tilt_0 rfl ?_
  refine Run.iconst (v := nI 0) d_Rf_tilt_1 ic_0 ?_
  refine Run.putf d_Rf_tilt_2 fl_Rf_59 (fun _ => rfl) (fun _ => rfl) (by first | rfl | assumption) (by exact Nat.le_of_ble_eq_true rfl) ?_
  refine run_hp (show _ = PX f0 ++ hM (z1, z2, z3, z4, z5, z6, z7, nI n, z9, sd, y1, y2, y3, y4) tx ho pi rh rp pg tr bk kp ik ta tp ga gr va rw from rfl) ?_
  refine Run.aload_n d_Rf_tilt_5 rfl ?_
  refine Run.iload_n d_Rf_tilt_6 rfl ?_
  refine Run.V1r d_Rf_tilt_7 lk_Rf_156 cm_Rf_noPiece iv_Rf_noPiece rfl (by first | rfl | assumption) (Nat.le_of_ble_eq_true rfl) (Nat.le_of_ble_eq_true rfl) (c_Rf_noPiece hc hr) ?_
  first | refine Run.if_eq_b d_Rf_tilt_10 (fun c10 => ?_) (fun c10 => ?_) | refine Run.if_eq_n d_Rf_tilt_10 (by omega) (fun c10 => ?_) (fun c10 => ?_) | refine Run.if_eq d_Rf_tilt_10 (fun c10 => ?_) (fun c10 => ?_)
  · refine Run.aload_n d_Rf_tilt_15 rfl ?_
    refine Run.V0 d_Rf_tilt_16 lk_Rf_161 cm_Rf_note iv_Rf_note rfl (by first | rfl | assumption) (Nat.le_of_ble_eq_true rfl) (Nat.le_of_ble_eq_true rfl) (q_Rf_note hn) (fun r16 h16 q16 => ?_)
    obtain ⟨rfl, bk2, n2, hb, rfl⟩ := q16
    refine Run.aload_n d_Rf_tilt_19 rfl ?_
    refine Run.getf d_Rf_tilt_20 fl_Rf_25 (by first | rfl | assumption) (by rfl) ?_
    refine Run.iload_n d_Rf_tilt_23 rfl ?_
    refine Run.iload_n d_Rf_tilt_24 rfl ?_
    refine Run.S3v d_Rf_tilt_25 lk_Rf_164 cm_Rf_goTilt st_Rf_goTilt (Nat.le_of_ble_eq_true rfl) (Nat.le_of_ble_eq_true rfl) (q_Rf_goTilt (k := 49) rfl (by omega) hT hT8) ?_
    refine Run.aload_n d_Rf_tilt_28 rfl ?_
    refine Run.getf d_Rf_tilt_29 fl_Rf_25 (by first | rfl | assumption) (by rfl) ?_
    refine Run.iconst (v := nI 0) d_Rf_tilt_32 ic_0 ?_
    refine Run.iload_n d_Rf_tilt_33 rfl ?_
    first | refine Run.iadd_n d_Rf_tilt_34 ?_ | refine Run.iadd d_Rf_tilt_34 ?_
    rw [show 0 + i = i by omega]
    refine Run.iald_n d_Rf_tilt_35 (by first | rfl | assumption) (by omega) (by omega) ?_
    rw [pk_us]
    refine Run.iret d_Rf_tilt_36 rfl rfl ?_
    exact ⟨rfl, bk2, n2, hb, rfl⟩
  · rw [inB_nI (by omega) (by omega), decide_eq_true hi] at c10; cases c10
theorem q_Rf_give0 {x y : Int32} (hc : coOK c) (hr : RfAt (PX f0 ++ hM nu tx ho pi rh rp pg tr bk kp ik ta tp ga gr va rw) c) (hx : (inB x (npC c) && inB y (nhC c)) = false) : Call X (d + 2) 0 0 M_Rf_give [.ref 44, .int x, .int y] (PX f0 ++ hM nu tx ho pi rh rp pg tr bk kp ik ta tp ga gr va rw) (Ret (.int (-1)) (PX f0 ++ hM nu tx ho pi rh rp pg tr bk kp ik ta tp ga gr va rw)) := by
  show Run X (d + 2) 0 0 M_Rf_give 0 [some (.ref 44), some (.int x), some (.int y), none] [] _ _
  refine Run.aload_n d_Rf_give_0 rfl ?_
  refine Run.iconst (v := nI 0) d_Rf_give_1 ic_0 ?_
  refine Run.putf d_Rf_give_2 fl_Rf_59 (fun _ => rfl) (fun _ => rfl) (by first | rfl | assumption) (by exact Nat.le_of_ble_eq_true rfl) ?_
  refine run_hp (show _ = PX f0 ++ hM nu tx ho pi rh rp pg tr bk kp ik ta tp ga gr va rw from rfl) ?_
  refine Run.aload_n d_Rf_give_5 rfl ?_
  refine Run.iload_n d_Rf_give_6 rfl ?_
  refine Run.V1r d_Rf_give_7 lk_Rf_156 cm_Rf_noPiece iv_Rf_noPiece rfl (by first | rfl | assumption) (Nat.le_of_ble_eq_true rfl) (Nat.le_of_ble_eq_true rfl) (c_Rf_noPiece hc hr) ?_
  first | refine Run.if_ne_b d_Rf_give_10 (fun c10 => ?_) (fun c10 => ?_) | refine Run.if_ne_n d_Rf_give_10 (by omega) (fun c10 => ?_) (fun c10 => ?_) | refine Run.if_ne d_Rf_give_10 (fun c10 => ?_) (fun c10 => ?_)
  · refine Run.iconst (v := -1) d_Rf_give_21 ic_m1 ?_
    refine Run.iret d_Rf_give_22 rfl rfl ?_
    exact ⟨rfl, rfl⟩
  · refine Run.aload_n d_Rf_give_13 rfl ?_
    refine Run.iload_n d_Rf_give_14 rfl ?_
    refine Run.V1r d_Rf_give_15 lk_Rf_149 cm_Rf_noHolder iv_Rf_noHolder rfl (by first | rfl | assumption) (Nat.le_of_ble_eq_true rfl) (Nat.le_of_ble_eq_true rfl) (c_Rf_noHolder hc hr) ?_
    first | refine Run.if_eq_b d_Rf_give_18 (fun c18 => ?_) (fun c18 => ?_) | refine Run.if_eq_n d_Rf_give_18 (by omega) (fun c18 => ?_) (fun c18 => ?_) | refine Run.if_eq d_Rf_give_18 (fun c18 => ?_) (fun c18 => ?_)
    · rw [Bool.not_eq_false'] at c10 c18; rw [c10, c18] at hx; cases hx
    · refine Run.iconst (v := -1) d_Rf_give_21 ic_m1 ?_
      refine Run.iret d_Rf_give_22 rfl rfl ?_
      exact ⟨rfl, rfl⟩
theorem q_Rf_give1 {i j : Nat} (hc : coOK c) (hr : RfAt (PX f0 ++ hM nu tx ho pi rh rp pg tr bk kp ik ta tp ga gr va rw) c) (hi : i < npC c) (hj : j < nhC c) (hW : pg (6 + i) = nI j) : Call X (d + 2) 0 0 M_Rf_give [.ref 44, .int (nI i), .int (nI j)] (PX f0 ++ hM nu tx ho pi rh rp pg tr bk kp ik ta tp ga gr va rw) (Ret (.int (-3)) (PX f0 ++ hM nu tx ho pi rh rp pg tr bk kp ik ta tp ga gr va rw)) := by
  show Run X (d + 2) 0 0 M_Rf_give 0 [some (.ref 44), some (.int (nI i)), some (.int (nI j)), none] [] _ _
  have b1 := hc.1
  have b2 := hc.2.1
  refine Run.aload_n d_Rf_give_0 rfl ?_
  refine Run.iconst (v := nI 0) d_Rf_give_1 ic_0 ?_
  refine Run.putf d_Rf_give_2 fl_Rf_59 (fun _ => rfl) (fun _ => rfl) (by first | rfl | assumption) (by exact Nat.le_of_ble_eq_true rfl) ?_
  refine run_hp (show _ = PX f0 ++ hM nu tx ho pi rh rp pg tr bk kp ik ta tp ga gr va rw from rfl) ?_
  refine Run.aload_n d_Rf_give_5 rfl ?_
  refine Run.iload_n d_Rf_give_6 rfl ?_
  refine Run.V1r d_Rf_give_7 lk_Rf_156 cm_Rf_noPiece iv_Rf_noPiece rfl (by first | rfl | assumption) (Nat.le_of_ble_eq_true rfl) (Nat.le_of_ble_eq_true rfl) (c_Rf_noPiece hc hr) ?_
  first | refine Run.if_ne_b d_Rf_give_10 (fun c10 => ?_) (fun c10 => ?_) | refine Run.if_ne_n d_Rf_give_10 (by omega) (fun c10 => ?_) (fun c10 => ?_) | refine Run.if_ne d_Rf_give_10 (fun c10 => ?_) (fun c10 => ?_)
  · rw [inB_nI (by omega) (by omega), decide_eq_true hi] at c10; cases c10
  · refine Run.aload_n d_Rf_give_13 rfl ?_
    refine Run.iload_n d_Rf_give_14 rfl ?_
    refine Run.V1r d_Rf_give_15 lk_Rf_149 cm_Rf_noHolder iv_Rf_noHolder rfl (by first | rfl | assumption) (Nat.le_of_ble_eq_true rfl) (Nat.le_of_ble_eq_true rfl) (c_Rf_noHolder hc hr) ?_
    first | refine Run.if_eq_b d_Rf_give_18 (fun c18 => ?_) (fun c18 => ?_) | refine Run.if_eq_n d_Rf_give_18 (by omega) (fun c18 => ?_) (fun c18 => ?_) | refine Run.if_eq d_Rf_give_18 (fun c18 => ?_) (fun c18 => ?_)
    · refine Run.aload_n d_Rf_give_23 rfl ?_
      refine Run.getf d_Rf_give_24 fl_Rf_25 (by first | rfl | assumption) (by rfl) ?_
      refine Run.bipush (v := nI 6) d_Rf_give_27 bp_6 ?_
      refine Run.iload_n d_Rf_give_29 rfl ?_
      first | refine Run.iadd_n d_Rf_give_30 ?_ | refine Run.iadd d_Rf_give_30 ?_
      refine Run.iald_n d_Rf_give_31 (by first | rfl | assumption) (by omega) (by omega) ?_
      rw [hW]
      refine Run.istore_n d_Rf_give_32 rfl rfl ?_
      show Run _ _ _ _ _ _ [_, _, _, _] _ _ _
      refine Run.iload_n d_Rf_give_33 rfl ?_
      refine Run.iload_n d_Rf_give_34 rfl ?_
      first | refine Run.icmp_ne_n d_Rf_give_35 (by omega) (by omega) (fun c35 => ?_) (fun c35 => ?_) | refine Run.icmp_ne d_Rf_give_35 (fun c35 => ?_) (fun c35 => ?_)
      · exact absurd rfl c35
      · refine Run.bipush (v := -3) d_Rf_give_38 bp_m3 ?_
        refine Run.iret d_Rf_give_40 rfl rfl ?_
        exact ⟨rfl, rfl⟩
    · rw [inB_nI (by omega) (by omega), decide_eq_true hj] at c18; cases c18
theorem q_Rf_give {i j W n : Nat} (hc : coOK c) (hr : RfAt (PX f0 ++ hM (z1, z2, z3, z4, z5, z6, z7, nI n, z9, sd, y1, y2, y3, y4) tx ho pi rh rp pg tr bk kp ik ta tp ga gr va rw) c) (hi : i < npC c) (hj : j < nhC c) (hn : n ≤ 14) (hW : pg (6 + i) = nI W) (hW4 : W < 4) (hne : ¬ W = j) : Call X (d + 2) 0 0 M_Rf_give [.ref 44, .int (nI i), .int (nI j)] (PX f0 ++ hM (z1, z2, z3, z4, z5, z6, z7, nI n, z9, sd, y1, y2, y3, y4) tx ho pi rh rp pg tr bk kp ik ta tp ga gr va rw) (fun r h2 => r = some (.int (nI W)) ∧ ∃ bk2 n2, BkA bk pg bk2 n n2 ∧ h2 = PX f0 ++ hM (z1, z2, z3, z4, z5, z6, z7, nI n2, z9, sd, y1, y2, y3, y4) tx ho pi rh rp (upd pg (6 + i) (nI j)) tr bk2 kp ik ta tp ga gr va rw) := by
  show Run X (d + 2) 0 0 M_Rf_give 0 [some (.ref 44), some (.int (nI i)), some (.int (nI j)), none] [] _ _
  have b1 := hc.1
  have b2 := hc.2.1
  refine Run.aload_n d_Rf_give_0 rfl ?_
  refine Run.iconst (v := nI 0) d_Rf_give_1 ic_0 ?_
  refine Run.putf d_Rf_give_2 fl_Rf_59 (fun _ => rfl) (fun _ => rfl) (by first | rfl | assumption) (by exact Nat.le_of_ble_eq_true rfl) ?_
  refine run_hp (show _ = PX f0 ++ hM (z1, z2, z3, z4, z5, z6, z7, nI n, z9, sd, y1, y2, y3, y4) tx ho pi rh rp pg tr bk kp ik ta tp ga gr va rw from rfl) ?_
  refine Run.aload_n d_Rf_give_5 rfl ?_
  refine Run.iload_n d_Rf_give_6 rfl ?_
  refine Run.V1r d_Rf_give_7 lk_Rf_156 cm_Rf_noPiece iv_Rf_noPiece rfl (by first | rfl | assumption) (Nat.le_of_ble_eq_true rfl) (Nat.le_of_ble_eq_true rfl) (c_Rf_noPiece hc hr) ?_
  first | refine Run.if_ne_b d_Rf_give_10 (fun c10 => ?_) (fun c10 => ?_) | refine Run.if_ne_n d_Rf_give_10 (by omega) (fun c10 => ?_) (fun c10 => ?_) | refine Run.if_ne d_Rf_give_10 (fun c10 => ?_) (fun c10 => ?_)
  · rw [inB_nI (by omega) (by omega), decide_eq_true hi] at c10; cases c10
  · refine Run.aload_n d_Rf_give_13 rfl ?_
    refine Run.iload_n d_Rf_give_14 rfl ?_
    refine Run.V1r d_Rf_give_15 lk_Rf_149 cm_Rf_noHolder iv_Rf_noHolder rfl (by first | rfl | assumption) (Nat.le_of_ble_eq_true rfl) (Nat.le_of_ble_eq_true rfl) (c_Rf_noHolder hc hr) ?_
    first | refine Run.if_eq_b d_Rf_give_18 (fun c18 => ?_) (fun c18 => ?_) | refine Run.if_eq_n d_Rf_give_18 (by omega) (fun c18 => ?_) (fun c18 => ?_) | refine Run.if_eq d_Rf_give_18 (fun c18 => ?_) (fun c18 => ?_)
    · refine Run.aload_n d_Rf_give_23 rfl ?_
      refine Run.getf d_Rf_give_24 fl_Rf_25 (by first | rfl | assumption) (by rfl) ?_
      refine Run.bipush (v := nI 6) d_Rf_give_27 bp_6 ?_
      refine Run.iload_n d_Rf_give_29 rfl ?_
      first | refine Run.iadd_n d_Rf_give_30 ?_ | refine Run.iadd d_Rf_give_30 ?_
      refine Run.iald_n d_Rf_give_31 (by first | rfl | assumption) (by omega) (by omega) ?_
      rw [hW]
      refine Run.istore_n d_Rf_give_32 rfl rfl ?_
      show Run _ _ _ _ _ _ [_, _, _, _] _ _ _
      refine Run.iload_n d_Rf_give_33 rfl ?_
      refine Run.iload_n d_Rf_give_34 rfl ?_
      first | refine Run.icmp_ne_n d_Rf_give_35 (by omega) (by omega) (fun c35 => ?_) (fun c35 => ?_) | refine Run.icmp_ne d_Rf_give_35 (fun c35 => ?_) (fun c35 => ?_)
      · refine Run.aload_n d_Rf_give_41 rfl ?_
        refine Run.V0 d_Rf_give_42 lk_Rf_161 cm_Rf_note iv_Rf_note rfl (by first | rfl | assumption) (Nat.le_of_ble_eq_true rfl) (Nat.le_of_ble_eq_true rfl) (q_Rf_note hn) (fun r42 h42 q42 => ?_)
        obtain ⟨rfl, bk2, n2, hb, rfl⟩ := q42
        refine Run.aload_n d_Rf_give_45 rfl ?_
        refine Run.getf d_Rf_give_46 fl_Rf_25 (by first | rfl | assumption) (by rfl) ?_
        refine Run.bipush (v := nI 6) d_Rf_give_49 bp_6 ?_
        refine Run.iload_n d_Rf_give_51 rfl ?_
        first | refine Run.iadd_n d_Rf_give_52 ?_ | refine Run.iadd d_Rf_give_52 ?_
        refine Run.iload_n d_Rf_give_53 rfl ?_
        refine Run.iast_n d_Rf_give_54 (by first | rfl | assumption) (by omega) (by omega) ?_
        refine Run.iload_n d_Rf_give_55 rfl ?_
        refine Run.iret d_Rf_give_56 rfl rfl ?_
        exact ⟨rfl, bk2, n2, hb, rfl⟩
      · exact absurd c35 hne
    · rw [inB_nI (by omega) (by omega), decide_eq_true hj] at c18; cases c18
theorem q_Rf_undo0 : Call X d 0 0 M_Rf_undo [.ref 44] (PX f0 ++ hM (z1, z2, z3, z4, z5, z6, z7, nI 0, z9, sd, y1, y2, y3, y4) tx ho pi rh rp pg tr bk kp ik ta tp ga gr va rw) (Ret (.int (-3)) (PX f0 ++ hM (z1, z2, z3, z4, z5, z6, z7, nI 0, z9, sd, y1, y2, y3, y4) tx ho pi rh rp pg tr bk kp ik ta tp ga gr va rw)) := by
  show Run X d 0 0 M_Rf_undo 0 [some (.ref 44), none] [] _ _
  refine Run.aload_n d_Rf_undo_0 rfl ?_
  refine Run.iconst (v := nI 0) d_Rf_undo_1 ic_0 ?_
  refine Run.putf d_Rf_undo_2 fl_Rf_59 (fun _ => rfl) (fun _ => rfl) (by first | rfl | assumption) (by exact Nat.le_of_ble_eq_true rfl) ?_
  refine Run.aload_n d_Rf_undo_5 rfl ?_
  refine Run.getf d_Rf_undo_6 fl_Rf_108 (by first | rfl | assumption) (by rfl) ?_
  first | refine Run.if_ne_b d_Rf_undo_9 (fun c9 => ?_) (fun c9 => ?_) | refine Run.if_ne_n d_Rf_undo_9 (by omega) (fun c9 => ?_) (fun c9 => ?_) | refine Run.if_ne d_Rf_undo_9 (fun c9 => ?_) (fun c9 => ?_)
  · exact absurd rfl c9
  · refine Run.bipush (v := -3) d_Rf_undo_12 bp_m3 ?_
    refine Run.iret d_Rf_undo_14 rfl rfl ?_
    exact ⟨rfl, rfl⟩
theorem q_Rf_undo {n : Nat} (hn : n < 14) : Call X d 0 0 M_Rf_undo [.ref 44] (PX f0 ++ hM (z1, z2, z3, z4, z5, z6, z7, nI (n + 1), z9, sd, y1, y2, y3, y4) tx ho pi rh rp pg tr bk kp ik ta tp ga gr va rw) (fun r h2 => r = some (.int (nI n)) ∧ ∃ pg2, (∀ j, j < 14 → pg2 j = bk (14 * n + j)) ∧ h2 = PX f0 ++ hM (z1, z2, z3, z4, z5, z6, z7, nI n, z9, sd, y1, y2, y3, y4) tx ho pi rh rp pg2 tr bk kp ik ta tp ga gr va rw) := by
  show Run X d 0 0 M_Rf_undo 0 [some (.ref 44), none] [] _ _
  have key : Run X d 0 0 M_Rf_undo 27 [some (.ref 44), some (.int (nI 0))] [] (PX f0 ++ hM (z1, z2, z3, z4, z5, z6, z7, nI n, z9, sd, y1, y2, y3, y4) tx ho pi rh rp pg tr bk kp ik ta tp ga gr va rw) (fun r h2 => r = some (.int (nI n)) ∧ ∃ pg2, (∀ j, j < 14 → pg2 j = bk (14 * n + j)) ∧ h2 = PX f0 ++ hM (z1, z2, z3, z4, z5, z6, z7, nI n, z9, sd, y1, y2, y3, y4) tx ho pi rh rp pg2 tr bk kp ik ta tp ga gr va rw) := by
    refine upto 14 (fun i => ∀ pg2 : FI, (∀ j, j < i → pg2 j = bk (14 * n + j)) → Run X d 0 0 M_Rf_undo 27 [some (.ref 44), some (.int (nI i))] [] (PX f0 ++ hM (z1, z2, z3, z4, z5, z6, z7, nI n, z9, sd, y1, y2, y3, y4) tx ho pi rh rp pg2 tr bk kp ik ta tp ga gr va rw) (fun r h2 => r = some (.int (nI n)) ∧ ∃ pg2, (∀ j, j < 14 → pg2 j = bk (14 * n + j)) ∧ h2 = PX f0 ++ hM (z1, z2, z3, z4, z5, z6, z7, nI n, z9, sd, y1, y2, y3, y4) tx ho pi rh rp pg2 tr bk kp ik ta tp ga gr va rw)) ?_ 0 (Nat.zero_le _) pg (fun j hj => by omega)
    intro i hi ih pg2 he
    refine Run.iload_n d_Rf_undo_27 rfl ?_
    refine Run.bipush (v := nI 14) d_Rf_undo_28 bp_14 ?_
    first | refine Run.icmp_ge_n d_Rf_undo_30 (by omega) (by omega) (fun c30 => ?_) (fun c30 => ?_) | refine Run.icmp_ge d_Rf_undo_30 (fun c30 => ?_) (fun c30 => ?_)
    · refine Run.aload_n d_Rf_undo_59 rfl ?_
      refine Run.getf d_Rf_undo_60 fl_Rf_108 (by first | rfl | assumption) (by rfl) ?_
      refine Run.iret d_Rf_undo_63 rfl rfl ?_
      exact ⟨rfl, pg2, fun j hj => he j (by omega), rfl⟩
    · refine Run.aload_n d_Rf_undo_33 rfl ?_
      refine Run.getf d_Rf_undo_34 fl_Rf_25 (by first | rfl | assumption) (by rfl) ?_
      refine Run.iload_n d_Rf_undo_37 rfl ?_
      refine Run.aload_n d_Rf_undo_38 rfl ?_
      refine Run.getf d_Rf_undo_39 fl_Rf_31 (by first | rfl | assumption) (by rfl) ?_
      refine Run.bipush (v := nI 14) d_Rf_undo_42 bp_14 ?_
      refine Run.aload_n d_Rf_undo_44 rfl ?_
      refine Run.getf d_Rf_undo_45 fl_Rf_108 (by first | rfl | assumption) (by rfl) ?_
      first | refine Run.imul_n d_Rf_undo_48 ?_ | refine Run.imul d_Rf_undo_48 ?_
      refine Run.iload_n d_Rf_undo_49 rfl ?_
      first | refine Run.iadd_n d_Rf_undo_50 ?_ | refine Run.iadd d_Rf_undo_50 ?_
      refine Run.iald_n d_Rf_undo_51 (by first | rfl | assumption) (by omega) (by omega) ?_
      refine Run.iast_n d_Rf_undo_52 (by first | rfl | assumption) (by omega) (by omega) ?_
      first | refine Run.iinc_n d_Rf_undo_53 ic_1 rfl rfl ?_ | refine Run.iinc d_Rf_undo_53 rfl rfl rfl ?_
      show Run _ _ _ _ _ _ [_, _] _ _ _
      refine Run.goto d_Rf_undo_56 ?_
      refine ih c30 (upd pg2 i (bk (14 * n + i))) (fun j hj => ?_)
      by_cases hji : j = i
      · subst hji; exact pk_us
      · rw [pk_un hji]; exact he j (by omega)
  refine Run.aload_n d_Rf_undo_0 rfl ?_
  refine Run.iconst (v := nI 0) d_Rf_undo_1 ic_0 ?_
  refine Run.putf d_Rf_undo_2 fl_Rf_59 (fun _ => rfl) (fun _ => rfl) (by first | rfl | assumption) (by exact Nat.le_of_ble_eq_true rfl) ?_
  refine Run.aload_n d_Rf_undo_5 rfl ?_
  refine Run.getf d_Rf_undo_6 fl_Rf_108 (by first | rfl | assumption) (by rfl) ?_
  first | refine Run.if_ne_b d_Rf_undo_9 (fun c9 => ?_) (fun c9 => ?_) | refine Run.if_ne_n d_Rf_undo_9 (by omega) (fun c9 => ?_) (fun c9 => ?_) | refine Run.if_ne d_Rf_undo_9 (fun c9 => ?_) (fun c9 => ?_)
  · refine Run.aload_n d_Rf_undo_15 rfl ?_
    refine Run.dup d_Rf_undo_16 rfl ?_
    refine Run.getf d_Rf_undo_17 fl_Rf_108 (by first | rfl | assumption) (by rfl) ?_
    refine Run.iconst (v := nI 1) d_Rf_undo_20 ic_1 ?_
    first | refine Run.isub_n d_Rf_undo_21 (by omega) ?_ | refine Run.isub d_Rf_undo_21 ?_
    refine Run.putf d_Rf_undo_22 fl_Rf_108 (fun _ => rfl) (fun _ => rfl) (by first | rfl | assumption) (by exact Nat.le_of_ble_eq_true rfl) ?_
    refine Run.iconst (v := nI 0) d_Rf_undo_25 ic_0 ?_
    refine Run.istore_n d_Rf_undo_26 rfl rfl ?_
    show Run _ _ _ _ _ _ [_, _] _ _ _
    exact key
  · omega
theorem q_Rf_keepX {x : Int32} (hx : inB x 2 = false) : Call X (d + 1) 0 0 M_Rf_keep [.ref 44, .int x] (PX f0 ++ hM nu tx ho pi rh rp pg tr bk kp ik ta tp ga gr va rw) (Ret (.int (-1)) (PX f0 ++ hM nu tx ho pi rh rp pg tr bk kp ik ta tp ga gr va rw)) := by
  show Run X (d + 1) 0 0 M_Rf_keep 0 [some (.ref 44), some (.int x), none] [] _ _
  refine Run.aload_n d_Rf_keep_0 rfl ?_
  refine Run.iconst (v := nI 0) d_Rf_keep_1 ic_0 ?_
  refine Run.putf d_Rf_keep_2 fl_Rf_59 (fun _ => rfl) (fun _ => rfl) (by first | rfl | assumption) (by exact Nat.le_of_ble_eq_true rfl) ?_
  refine run_hp (show _ = PX f0 ++ hM nu tx ho pi rh rp pg tr bk kp ik ta tp ga gr va rw from rfl) ?_
  refine Run.iload_n d_Rf_keep_5 rfl ?_
  refine Run.i2l d_Rf_keep_6 ?_
  refine Run.lconst (v := 0) d_Rf_keep_7 rfl ?_
  refine Run.lconst (v := 1) d_Rf_keep_8 rfl ?_
  refine Run.S3r d_Rf_keep_9 lk_Rf_66 cm_Rf_in st_Rf_in (Nat.le_of_ble_eq_true rfl) (Nat.le_of_ble_eq_true rfl) (c_Rf_in) ?_
  rw [in_B (n := 2) (by omega) (by decide +kernel)]
  first | refine Run.if_ne_b d_Rf_keep_12 (fun c12 => ?_) (fun c12 => ?_) | refine Run.if_ne_n d_Rf_keep_12 (by omega) (fun c12 => ?_) (fun c12 => ?_) | refine Run.if_ne d_Rf_keep_12 (fun c12 => ?_) (fun c12 => ?_)
  · rw [hx] at c12; cases c12
  · refine Run.iconst (v := -1) d_Rf_keep_15 ic_m1 ?_
    refine Run.iret d_Rf_keep_16 rfl rfl ?_
    exact ⟨rfl, rfl⟩
theorem q_Rf_keep {m : Nat} (hm : m < 2) : Call X (d + 1) 0 0 M_Rf_keep [.ref 44, .int (nI m)] (PX f0 ++ hM nu tx ho pi rh rp pg tr bk kp ik ta tp ga gr va rw) (fun r h2 => r = some (.int (pg 13)) ∧ ∃ kp2 : FI, (∀ j, (j < 14 * m ∨ 14 * m + 14 ≤ j) → kp2 j = kp j) ∧ (∀ j, j < 14 → kp2 (14 * m + j) = pg j) ∧ h2 = PX f0 ++ hM nu tx ho pi rh rp pg tr bk kp2 (upd ik m (bI true)) ta tp ga gr va rw) := by
  show Run X (d + 1) 0 0 M_Rf_keep 0 [some (.ref 44), some (.int (nI m)), none] [] _ _
  have key : Run X (d + 1) 0 0 M_Rf_keep 26 [some (.ref 44), some (.int (nI m)), some (.int (nI 0))] [] (PX f0 ++ hM nu tx ho pi rh rp pg tr bk kp (upd ik m (bI true)) ta tp ga gr va rw) (fun r h2 => r = some (.int (pg 13)) ∧ ∃ kp2 : FI, (∀ j, (j < 14 * m ∨ 14 * m + 14 ≤ j) → kp2 j = kp j) ∧ (∀ j, j < 14 → kp2 (14 * m + j) = pg j) ∧ h2 = PX f0 ++ hM nu tx ho pi rh rp pg tr bk kp2 (upd ik m (bI true)) ta tp ga gr va rw) := by
    refine upto 14 (fun i => ∀ kp2 : FI, (∀ j, (j < 14 * m ∨ 14 * m + 14 ≤ j) → kp2 j = kp j) → (∀ j, j < i → kp2 (14 * m + j) = pg j) → Run X (d + 1) 0 0 M_Rf_keep 26 [some (.ref 44), some (.int (nI m)), some (.int (nI i))] [] (PX f0 ++ hM nu tx ho pi rh rp pg tr bk kp2 (upd ik m (bI true)) ta tp ga gr va rw) (fun r h2 => r = some (.int (pg 13)) ∧ ∃ kp2 : FI, (∀ j, (j < 14 * m ∨ 14 * m + 14 ≤ j) → kp2 j = kp j) ∧ (∀ j, j < 14 → kp2 (14 * m + j) = pg j) ∧ h2 = PX f0 ++ hM nu tx ho pi rh rp pg tr bk kp2 (upd ik m (bI true)) ta tp ga gr va rw)) ?_ 0 (Nat.zero_le _) kp (fun j hj => rfl) (fun j hj => by omega)
    intro i hi ih kp2 he1 he2
    refine Run.iload_n d_Rf_keep_26 rfl ?_
    refine Run.bipush (v := nI 14) d_Rf_keep_27 bp_14 ?_
    first | refine Run.icmp_ge_n d_Rf_keep_29 (by omega) (by omega) (fun c29 => ?_) (fun c29 => ?_) | refine Run.icmp_ge d_Rf_keep_29 (fun c29 => ?_) (fun c29 => ?_)
    · refine Run.aload_n d_Rf_keep_55 rfl ?_
      refine Run.getf d_Rf_keep_56 fl_Rf_25 (by first | rfl | assumption) (by rfl) ?_
      refine Run.bipush (v := nI 13) d_Rf_keep_59 bp_13 ?_
      refine Run.iald_n d_Rf_keep_61 (by first | rfl | assumption) (by omega) (by omega) ?_
      refine Run.iret d_Rf_keep_62 rfl rfl ?_
      exact ⟨rfl, kp2, he1, fun j hj => he2 j (by omega), rfl⟩
    · refine Run.aload_n d_Rf_keep_32 rfl ?_
      refine Run.getf d_Rf_keep_33 fl_Rf_34 (by first | rfl | assumption) (by rfl) ?_
      refine Run.bipush (v := nI 14) d_Rf_keep_36 bp_14 ?_
      refine Run.iload_n d_Rf_keep_38 rfl ?_
      first | refine Run.imul_n d_Rf_keep_39 ?_ | refine Run.imul d_Rf_keep_39 ?_
      refine Run.iload_n d_Rf_keep_40 rfl ?_
      first | refine Run.iadd_n d_Rf_keep_41 ?_ | refine Run.iadd d_Rf_keep_41 ?_
      refine Run.aload_n d_Rf_keep_42 rfl ?_
      refine Run.getf d_Rf_keep_43 fl_Rf_25 (by first | rfl | assumption) (by rfl) ?_
      refine Run.iload_n d_Rf_keep_46 rfl ?_
      refine Run.iald_n d_Rf_keep_47 (by first | rfl | assumption) (by omega) (by omega) ?_
      refine Run.iast_n d_Rf_keep_48 (by first | rfl | assumption) (by omega) (by omega) ?_
      first | refine Run.iinc_n d_Rf_keep_49 ic_1 rfl rfl ?_ | refine Run.iinc d_Rf_keep_49 rfl rfl rfl ?_
      show Run _ _ _ _ _ _ [_, _, _] _ _ _
      refine Run.goto d_Rf_keep_52 ?_
      refine ih c29 (upd kp2 (14 * m + i) (pg i)) (fun j hj => ?_) (fun j hj => ?_)
      · rw [pk_un (by omega)]; exact he1 j hj
      · by_cases hji : j = i
        · subst hji; exact pk_us
        · rw [pk_un (by omega)]; exact he2 j (by omega)
  refine Run.aload_n d_Rf_keep_0 rfl ?_
  refine Run.iconst (v := nI 0) d_Rf_keep_1 ic_0 ?_
  refine Run.putf d_Rf_keep_2 fl_Rf_59 (fun _ => rfl) (fun _ => rfl) (by first | rfl | assumption) (by exact Nat.le_of_ble_eq_true rfl) ?_
  refine run_hp (show _ = PX f0 ++ hM nu tx ho pi rh rp pg tr bk kp ik ta tp ga gr va rw from rfl) ?_
  refine Run.iload_n d_Rf_keep_5 rfl ?_
  refine Run.i2l d_Rf_keep_6 ?_
  refine Run.lconst (v := 0) d_Rf_keep_7 rfl ?_
  refine Run.lconst (v := 1) d_Rf_keep_8 rfl ?_
  refine Run.S3r d_Rf_keep_9 lk_Rf_66 cm_Rf_in st_Rf_in (Nat.le_of_ble_eq_true rfl) (Nat.le_of_ble_eq_true rfl) (c_Rf_in) ?_
  rw [in_B (n := 2) (by omega) (by decide +kernel)]
  first | refine Run.if_ne_b d_Rf_keep_12 (fun c12 => ?_) (fun c12 => ?_) | refine Run.if_ne_n d_Rf_keep_12 (by omega) (fun c12 => ?_) (fun c12 => ?_) | refine Run.if_ne d_Rf_keep_12 (fun c12 => ?_) (fun c12 => ?_)
  · refine Run.aload_n d_Rf_keep_17 rfl ?_
    refine Run.getf d_Rf_keep_18 fl_Rf_37 (by first | rfl | assumption) (by rfl) ?_
    refine Run.iload_n d_Rf_keep_21 rfl ?_
    refine Run.iconst (v := nI 1) d_Rf_keep_22 ic_1 ?_
    refine Run.zast_n d_Rf_keep_23 (by first | rfl | assumption) (by omega) (by omega) (by first | exact bI_vnar _ | decide +kernel) ?_
    refine Run.iconst (v := nI 0) d_Rf_keep_24 ic_0 ?_
    refine Run.istore_n d_Rf_keep_25 rfl rfl ?_
    show Run _ _ _ _ _ _ [_, _, _] _ _ _
    exact key
  · exact (inB_f hm (by omega) c12).elim
theorem q_Rf_againX {x : Int32} (hx : inB x 2 = false) : Call X (d + 1) 0 0 M_Rf_again [.ref 44, .int x] (PX f0 ++ hM nu tx ho pi rh rp pg tr bk kp ik ta tp ga gr va rw) (Ret (.int (-1)) (PX f0 ++ hM nu tx ho pi rh rp pg tr bk kp ik ta tp ga gr va rw)) := by
  show Run X (d + 1) 0 0 M_Rf_again 0 [some (.ref 44), some (.int x), none] [] _ _
  refine Run.aload_n d_Rf_again_0 rfl ?_
  refine Run.iconst (v := nI 0) d_Rf_again_1 ic_0 ?_
  refine Run.putf d_Rf_again_2 fl_Rf_59 (fun _ => rfl) (fun _ => rfl) (by first | rfl | assumption) (by exact Nat.le_of_ble_eq_true rfl) ?_
  refine run_hp (show _ = PX f0 ++ hM nu tx ho pi rh rp pg tr bk kp ik ta tp ga gr va rw from rfl) ?_
  refine Run.iload_n d_Rf_again_5 rfl ?_
  refine Run.i2l d_Rf_again_6 ?_
  refine Run.lconst (v := 0) d_Rf_again_7 rfl ?_
  refine Run.lconst (v := 1) d_Rf_again_8 rfl ?_
  refine Run.S3r d_Rf_again_9 lk_Rf_66 cm_Rf_in st_Rf_in (Nat.le_of_ble_eq_true rfl) (Nat.le_of_ble_eq_true rfl) (c_Rf_in) ?_
  rw [in_B (n := 2) (by omega) (by decide +kernel)]
  first | refine Run.if_ne_b d_Rf_again_12 (fun c12 => ?_) (fun c12 => ?_) | refine Run.if_ne_n d_Rf_again_12 (by omega) (fun c12 => ?_) (fun c12 => ?_) | refine Run.if_ne d_Rf_again_12 (fun c12 => ?_) (fun c12 => ?_)
  · rw [hx] at c12; cases c12
  · refine Run.iconst (v := -1) d_Rf_again_15 ic_m1 ?_
    refine Run.iret d_Rf_again_16 rfl rfl ?_
    exact ⟨rfl, rfl⟩
theorem q_Rf_againL {m : Nat} (hm : m < 2) (hk : ik m = bI false) : Call X (d + 1) 0 0 M_Rf_again [.ref 44, .int (nI m)] (PX f0 ++ hM nu tx ho pi rh rp pg tr bk kp ik ta tp ga gr va rw) (Ret (.int (-3)) (PX f0 ++ hM nu tx ho pi rh rp pg tr bk kp ik ta tp ga gr va rw)) := by
  show Run X (d + 1) 0 0 M_Rf_again 0 [some (.ref 44), some (.int (nI m)), none] [] _ _
  refine Run.aload_n d_Rf_again_0 rfl ?_
  refine Run.iconst (v := nI 0) d_Rf_again_1 ic_0 ?_
  refine Run.putf d_Rf_again_2 fl_Rf_59 (fun _ => rfl) (fun _ => rfl) (by first | rfl | assumption) (by exact Nat.le_of_ble_eq_true rfl) ?_
  refine run_hp (show _ = PX f0 ++ hM nu tx ho pi rh rp pg tr bk kp ik ta tp ga gr va rw from rfl) ?_
  refine Run.iload_n d_Rf_again_5 rfl ?_
  refine Run.i2l d_Rf_again_6 ?_
  refine Run.lconst (v := 0) d_Rf_again_7 rfl ?_
  refine Run.lconst (v := 1) d_Rf_again_8 rfl ?_
  refine Run.S3r d_Rf_again_9 lk_Rf_66 cm_Rf_in st_Rf_in (Nat.le_of_ble_eq_true rfl) (Nat.le_of_ble_eq_true rfl) (c_Rf_in) ?_
  rw [in_B (n := 2) (by omega) (by decide +kernel)]
  first | refine Run.if_ne_b d_Rf_again_12 (fun c12 => ?_) (fun c12 => ?_) | refine Run.if_ne_n d_Rf_again_12 (by omega) (fun c12 => ?_) (fun c12 => ?_) | refine Run.if_ne d_Rf_again_12 (fun c12 => ?_) (fun c12 => ?_)
  · refine Run.aload_n d_Rf_again_17 rfl ?_
    refine Run.getf d_Rf_again_18 fl_Rf_37 (by first | rfl | assumption) (by rfl) ?_
    refine Run.iload_n d_Rf_again_21 rfl ?_
    refine Run.zald_n d_Rf_again_22 (by first | rfl | assumption) (by omega) (by omega) ?_
    rw [hk]
    first | refine Run.if_ne_b d_Rf_again_23 (fun c23 => ?_) (fun c23 => ?_) | refine Run.if_ne_n d_Rf_again_23 (by omega) (fun c23 => ?_) (fun c23 => ?_) | refine Run.if_ne d_Rf_again_23 (fun c23 => ?_) (fun c23 => ?_)
    · cases c23
    · refine Run.bipush (v := -3) d_Rf_again_26 bp_m3 ?_
      refine Run.iret d_Rf_again_28 rfl rfl ?_
      exact ⟨rfl, rfl⟩
  · exact (inB_f hm (by omega) c12).elim
theorem q_Rf_again {m : Nat} (hm : m < 2) (hk : ik m = bI true) : Call X (d + 1) 0 0 M_Rf_again [.ref 44, .int (nI m)] (PX f0 ++ hM (z1, z2, z3, z4, z5, z6, z7, z8, z9, sd, y1, y2, y3, y4) tx ho pi rh rp pg tr bk kp ik ta tp ga gr va rw) (fun r h2 => r = some (.int (kp (14 * m + 13))) ∧ ∃ pg2 : FI, (∀ j, j < 14 → pg2 j = kp (14 * m + j)) ∧ h2 = PX f0 ++ hM (z1, z2, z3, z4, z5, z6, z7, nI 0, z9, sd, y1, y2, y3, y4) tx ho pi rh rp pg2 tr bk kp ik ta tp ga gr va rw) := by
  show Run X (d + 1) 0 0 M_Rf_again 0 [some (.ref 44), some (.int (nI m)), none] [] _ _
  have key : Run X (d + 1) 0 0 M_Rf_again 31 [some (.ref 44), some (.int (nI m)), some (.int (nI 0))] [] (PX f0 ++ hM (z1, z2, z3, z4, z5, z6, z7, z8, z9, sd, y1, y2, y3, y4) tx ho pi rh rp pg tr bk kp ik ta tp ga gr va rw) (fun r h2 => r = some (.int (kp (14 * m + 13))) ∧ ∃ pg2 : FI, (∀ j, j < 14 → pg2 j = kp (14 * m + j)) ∧ h2 = PX f0 ++ hM (z1, z2, z3, z4, z5, z6, z7, nI 0, z9, sd, y1, y2, y3, y4) tx ho pi rh rp pg2 tr bk kp ik ta tp ga gr va rw) := by
    refine upto 14 (fun i => ∀ pg2 : FI, (∀ j, j < i → pg2 j = kp (14 * m + j)) → Run X (d + 1) 0 0 M_Rf_again 31 [some (.ref 44), some (.int (nI m)), some (.int (nI i))] [] (PX f0 ++ hM (z1, z2, z3, z4, z5, z6, z7, z8, z9, sd, y1, y2, y3, y4) tx ho pi rh rp pg2 tr bk kp ik ta tp ga gr va rw) (fun r h2 => r = some (.int (kp (14 * m + 13))) ∧ ∃ pg2 : FI, (∀ j, j < 14 → pg2 j = kp (14 * m + j)) ∧ h2 = PX f0 ++ hM (z1, z2, z3, z4, z5, z6, z7, nI 0, z9, sd, y1, y2, y3, y4) tx ho pi rh rp pg2 tr bk kp ik ta tp ga gr va rw)) ?_ 0 (Nat.zero_le _) pg (fun j hj => by omega)
    intro i hi ih pg2 he
    refine Run.iload_n d_Rf_again_31 rfl ?_
    refine Run.bipush (v := nI 14) d_Rf_again_32 bp_14 ?_
    first | refine Run.icmp_ge_n d_Rf_again_34 (by omega) (by omega) (fun c34 => ?_) (fun c34 => ?_) | refine Run.icmp_ge d_Rf_again_34 (fun c34 => ?_) (fun c34 => ?_)
    · refine Run.aload_n d_Rf_again_60 rfl ?_
      refine Run.iconst (v := nI 0) d_Rf_again_61 ic_0 ?_
      refine Run.putf d_Rf_again_62 fl_Rf_108 (fun _ => rfl) (fun _ => rfl) (by first | rfl | assumption) (by exact Nat.le_of_ble_eq_true rfl) ?_
      refine Run.aload_n d_Rf_again_65 rfl ?_
      refine Run.getf d_Rf_again_66 fl_Rf_25 (by first | rfl | assumption) (by rfl) ?_
      refine Run.bipush (v := nI 13) d_Rf_again_69 bp_13 ?_
      refine Run.iald_n d_Rf_again_71 (by first | rfl | assumption) (by omega) (by omega) ?_
      rw [he 13 (by omega)]
      refine Run.iret d_Rf_again_72 rfl rfl ?_
      exact ⟨rfl, pg2, fun j hj => he j (by omega), rfl⟩
    · refine Run.aload_n d_Rf_again_37 rfl ?_
      refine Run.getf d_Rf_again_38 fl_Rf_25 (by first | rfl | assumption) (by rfl) ?_
      refine Run.iload_n d_Rf_again_41 rfl ?_
      refine Run.aload_n d_Rf_again_42 rfl ?_
      refine Run.getf d_Rf_again_43 fl_Rf_34 (by first | rfl | assumption) (by rfl) ?_
      refine Run.bipush (v := nI 14) d_Rf_again_46 bp_14 ?_
      refine Run.iload_n d_Rf_again_48 rfl ?_
      first | refine Run.imul_n d_Rf_again_49 ?_ | refine Run.imul d_Rf_again_49 ?_
      refine Run.iload_n d_Rf_again_50 rfl ?_
      first | refine Run.iadd_n d_Rf_again_51 ?_ | refine Run.iadd d_Rf_again_51 ?_
      refine Run.iald_n d_Rf_again_52 (by first | rfl | assumption) (by omega) (by omega) ?_
      refine Run.iast_n d_Rf_again_53 (by first | rfl | assumption) (by omega) (by omega) ?_
      first | refine Run.iinc_n d_Rf_again_54 ic_1 rfl rfl ?_ | refine Run.iinc d_Rf_again_54 rfl rfl rfl ?_
      show Run _ _ _ _ _ _ [_, _, _] _ _ _
      refine Run.goto d_Rf_again_57 ?_
      refine ih c34 (upd pg2 i (kp (14 * m + i))) (fun j hj => ?_)
      by_cases hji : j = i
      · subst hji; exact pk_us
      · rw [pk_un hji]; exact he j (by omega)
  refine Run.aload_n d_Rf_again_0 rfl ?_
  refine Run.iconst (v := nI 0) d_Rf_again_1 ic_0 ?_
  refine Run.putf d_Rf_again_2 fl_Rf_59 (fun _ => rfl) (fun _ => rfl) (by first | rfl | assumption) (by exact Nat.le_of_ble_eq_true rfl) ?_
  refine run_hp (show _ = PX f0 ++ hM (z1, z2, z3, z4, z5, z6, z7, z8, z9, sd, y1, y2, y3, y4) tx ho pi rh rp pg tr bk kp ik ta tp ga gr va rw from rfl) ?_
  refine Run.iload_n d_Rf_again_5 rfl ?_
  refine Run.i2l d_Rf_again_6 ?_
  refine Run.lconst (v := 0) d_Rf_again_7 rfl ?_
  refine Run.lconst (v := 1) d_Rf_again_8 rfl ?_
  refine Run.S3r d_Rf_again_9 lk_Rf_66 cm_Rf_in st_Rf_in (Nat.le_of_ble_eq_true rfl) (Nat.le_of_ble_eq_true rfl) (c_Rf_in) ?_
  rw [in_B (n := 2) (by omega) (by decide +kernel)]
  first | refine Run.if_ne_b d_Rf_again_12 (fun c12 => ?_) (fun c12 => ?_) | refine Run.if_ne_n d_Rf_again_12 (by omega) (fun c12 => ?_) (fun c12 => ?_) | refine Run.if_ne d_Rf_again_12 (fun c12 => ?_) (fun c12 => ?_)
  · refine Run.aload_n d_Rf_again_17 rfl ?_
    refine Run.getf d_Rf_again_18 fl_Rf_37 (by first | rfl | assumption) (by rfl) ?_
    refine Run.iload_n d_Rf_again_21 rfl ?_
    refine Run.zald_n d_Rf_again_22 (by first | rfl | assumption) (by omega) (by omega) ?_
    rw [hk]
    first | refine Run.if_ne_b d_Rf_again_23 (fun c23 => ?_) (fun c23 => ?_) | refine Run.if_ne_n d_Rf_again_23 (by omega) (fun c23 => ?_) (fun c23 => ?_) | refine Run.if_ne d_Rf_again_23 (fun c23 => ?_) (fun c23 => ?_)
    · refine Run.iconst (v := nI 0) d_Rf_again_29 ic_0 ?_
      refine Run.istore_n d_Rf_again_30 rfl rfl ?_
      show Run _ _ _ _ _ _ [_, _, _] _ _ _
      exact key
    · cases c23
  · exact (inB_f hm (by omega) c12).elim
end RWORLD
