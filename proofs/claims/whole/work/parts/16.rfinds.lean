/-! ===== pieces held, tilts, finds (the reference) ===== -/
theorem fst5 (P : Nat → Bool) : fstN P 5 = if P 0 = true then some 0 else if P 1 = true then some 1 else if P 2 = true then some 2 else if P 3 = true then some 3 else if P 4 = true then some 4 else none := by
  simp only [fstN]
  cases P 0 <;> cases P 1 <;> cases P 2 <;> cases P 3 <;> cases P 4 <;> rfl
section RFINDS
variable {X : Nat × (Nat → Int32)} {d : Nat} {h : AH} {c : CA} {p : PG} {k : Nat}
theorem c_Rf_heldBy {j : Nat} (hc : coOK c) (hp : pgOK c p) (hr : RfAt h c) (hg : PgAt h k c p) (hj : j < 100) : Call X d 0 0 M_Rf_heldBy [.ref 44, .ref (k + 1), .int (nI j)] h (Ret (.int (nI (heldN c p j))) h) := by
  show Run X d 0 0 M_Rf_heldBy 0 [some (.ref 44), some (.ref (k + 1)), some (.int (nI j)), none, none] [] h _
  obtain ⟨ts, pl, rl, rh, rp, ac, tu, sd, mm, mf, rm, rf, fh, fp, g0, g1, g2, hu1, hu2⟩ := id hr
  obtain ⟨f, s0, hv1, hv2, hv3⟩ := id hg
  obtain ⟨b1, b2, b3, b4⟩ := id hc
  refine Run.iconst (v := nI 0) d_Rf_heldBy_0 ic_0 ?_
  refine Run.istore_n d_Rf_heldBy_1 rfl rfl ?_
  show Run _ _ _ _ _ _ [_, _, _, _, _] _ _ _
  refine Run.iconst (v := nI 0) d_Rf_heldBy_2 ic_0 ?_
  refine Run.istore d_Rf_heldBy_3 rfl rfl ?_
  show Run _ _ _ _ _ _ [_, _, _, _, _] _ _ _
  refine upto (npC c) (fun i => Run X d 0 0 M_Rf_heldBy 5 [some (.ref 44), some (.ref (k + 1)), some (.int (nI j)), some (.int (nI (itN (heldF p j) 0 i))), some (.int (nI i))] [] h _) ?_ 0 (Nat.zero_le _)
  intro i hi ih
  refine Run.iload d_Rf_heldBy_5 rfl ?_
  refine Run.aload_n d_Rf_heldBy_7 rfl ?_
  refine Run.getf d_Rf_heldBy_8 fl_Rf_70 (by first | rfl | assumption) (by rfl) ?_
  first | refine Run.icmp_ge_n d_Rf_heldBy_11 (by omega) (by omega) (fun c11 => ?_) (fun c11 => ?_) | refine Run.icmp_ge d_Rf_heldBy_11 (fun c11 => ?_) (fun c11 => ?_)
  · refine Run.iload_n d_Rf_heldBy_42 rfl ?_
    refine Run.iret d_Rf_heldBy_43 rfl rfl ?_
    exact ret_n (by rw [show i = npC c by omega]; rfl)
  · refine Run.iload_n d_Rf_heldBy_14 rfl ?_
    refine Run.aload_n d_Rf_heldBy_15 rfl ?_
    refine Run.bipush (v := nI 6) d_Rf_heldBy_16 bp_6 ?_
    refine Run.iload d_Rf_heldBy_18 rfl ?_
    first | refine Run.iadd_n d_Rf_heldBy_20 ?_ | refine Run.iadd d_Rf_heldBy_20 ?_
    refine Run.iald_n d_Rf_heldBy_21 (by first | rfl | assumption) (by omega) (by omega) ?_
    rw [(hv1 i c11).2]
    have w1 := (hp.2.2 i c11).2
    refine Run.iload_n d_Rf_heldBy_22 rfl ?_
    first | refine Run.icmp_ne_n d_Rf_heldBy_23 (by omega) (by omega) (fun c23 => ?_) (fun c23 => ?_) | refine Run.icmp_ne d_Rf_heldBy_23 (fun c23 => ?_) (fun c23 => ?_)
    · refine Run.iconst (v := nI 0) d_Rf_heldBy_33 ic_0 ?_
      first | refine Run.ior_n d_Rf_heldBy_34 ?_ | refine Run.ior d_Rf_heldBy_34 ?_
      refine Run.istore_n d_Rf_heldBy_35 rfl rfl ?_
      show Run _ _ _ _ _ _ [_, _, _, _, _] _ _ _
      first | refine Run.iinc_n d_Rf_heldBy_36 ic_1 rfl rfl ?_ | refine Run.iinc d_Rf_heldBy_36 rfl rfl rfl ?_
      show Run _ _ _ _ _ _ [_, _, _, _, _] _ _ _
      refine Run.goto d_Rf_heldBy_39 ?_
      exact run_cg (by simp [itN, heldF, c23]) (ih c11)
    · refine Run.iconst (v := nI 1) d_Rf_heldBy_26 ic_1 ?_
      refine Run.iload d_Rf_heldBy_27 rfl ?_
      have w3 : 2 ^ i < 2 ^ 6 := Nat.pow_lt_pow_right (by omega) (by omega)
      first | refine Run.ishl_n d_Rf_heldBy_29 (by omega) (by omega) ?_ | refine Run.ishl d_Rf_heldBy_29 ?_
      refine Run.goto d_Rf_heldBy_30 ?_
      first | refine Run.ior_n d_Rf_heldBy_34 ?_ | refine Run.ior d_Rf_heldBy_34 ?_
      refine Run.istore_n d_Rf_heldBy_35 rfl rfl ?_
      show Run _ _ _ _ _ _ [_, _, _, _, _] _ _ _
      first | refine Run.iinc_n d_Rf_heldBy_36 ic_1 rfl rfl ?_ | refine Run.iinc d_Rf_heldBy_36 rfl rfl rfl ?_
      show Run _ _ _ _ _ _ [_, _, _, _, _] _ _ _
      refine Run.goto d_Rf_heldBy_39 ?_
      exact run_cg (by simp [itN, heldF, c23]) (ih c11)
theorem c_Rf_partsHeld {j : Nat} (hc : coOK c) (hp : pgOK c p) (hr : RfAt h c) (hg : PgAt h 49 c p) (hj : j < 100) : Call X d 0 0 M_Rf_partsHeld [.ref 44, .int (nI j)] h (Ret (.int (nI (hptN c p j))) h) := by
  show Run X d 0 0 M_Rf_partsHeld 0 [some (.ref 44), some (.int (nI j)), none, none] [] h _
  obtain ⟨ts, pl, rl, rh, rp, ac, tu, sd, mm, mf, rm, rf, fh, fp, g0, g1, g2, hu1, hu2⟩ := id hr
  obtain ⟨f, s0, hv1, hv2, hv3⟩ := id hg
  obtain ⟨b1, b2, b3, b4⟩ := id hc
  refine Run.iconst (v := nI 0) d_Rf_partsHeld_0 ic_0 ?_
  refine Run.istore_n d_Rf_partsHeld_1 rfl rfl ?_
  show Run _ _ _ _ _ _ [_, _, _, _] _ _ _
  refine Run.iconst (v := nI 0) d_Rf_partsHeld_2 ic_0 ?_
  refine Run.istore_n d_Rf_partsHeld_3 rfl rfl ?_
  show Run _ _ _ _ _ _ [_, _, _, _] _ _ _
  refine upto (npC c) (fun i => Run X d 0 0 M_Rf_partsHeld 4 [some (.ref 44), some (.int (nI j)), some (.int (nI (itN (hptF c p j) 0 i))), some (.int (nI i))] [] h _) ?_ 0 (Nat.zero_le _)
  intro i hi ih
  refine Run.iload_n d_Rf_partsHeld_4 rfl ?_
  refine Run.aload_n d_Rf_partsHeld_5 rfl ?_
  refine Run.getf d_Rf_partsHeld_6 fl_Rf_70 (by first | rfl | assumption) (by rfl) ?_
  first | refine Run.icmp_ge_n d_Rf_partsHeld_9 (by omega) (by omega) (fun c9 => ?_) (fun c9 => ?_) | refine Run.icmp_ge d_Rf_partsHeld_9 (fun c9 => ?_) (fun c9 => ?_)
  · refine Run.iload_n d_Rf_partsHeld_48 rfl ?_
    refine Run.iret d_Rf_partsHeld_49 rfl rfl ?_
    exact ret_n (by rw [show i = npC c by omega]; rfl)
  · refine Run.iload_n d_Rf_partsHeld_12 rfl ?_
    refine Run.aload_n d_Rf_partsHeld_13 rfl ?_
    refine Run.getf d_Rf_partsHeld_14 fl_Rf_25 (by first | rfl | assumption) (by rfl) ?_
    refine Run.bipush (v := nI 6) d_Rf_partsHeld_17 bp_6 ?_
    refine Run.iload_n d_Rf_partsHeld_19 rfl ?_
    first | refine Run.iadd_n d_Rf_partsHeld_20 ?_ | refine Run.iadd d_Rf_partsHeld_20 ?_
    refine Run.iald_n d_Rf_partsHeld_21 (by first | rfl | assumption) (by omega) (by omega) ?_
    rw [(hv1 i c9).2]
    have w1 := (hp.2.2 i c9).2
    refine Run.iload_n d_Rf_partsHeld_22 rfl ?_
    first | refine Run.icmp_ne_n d_Rf_partsHeld_23 (by omega) (by omega) (fun c23 => ?_) (fun c23 => ?_) | refine Run.icmp_ne d_Rf_partsHeld_23 (fun c23 => ?_) (fun c23 => ?_)
    · refine Run.iconst (v := nI 0) d_Rf_partsHeld_39 ic_0 ?_
      first | refine Run.ior_n d_Rf_partsHeld_40 ?_ | refine Run.ior d_Rf_partsHeld_40 ?_
      refine Run.istore_n d_Rf_partsHeld_41 rfl rfl ?_
      show Run _ _ _ _ _ _ [_, _, _, _] _ _ _
      first | refine Run.iinc_n d_Rf_partsHeld_42 ic_1 rfl rfl ?_ | refine Run.iinc d_Rf_partsHeld_42 rfl rfl rfl ?_
      show Run _ _ _ _ _ _ [_, _, _, _] _ _ _
      refine Run.goto d_Rf_partsHeld_45 ?_
      exact run_cg (by simp [itN, hptF, c23]) (ih c9)
    · refine Run.iconst (v := nI 1) d_Rf_partsHeld_26 ic_1 ?_
      refine Run.aload_n d_Rf_partsHeld_27 rfl ?_
      refine Run.getf d_Rf_partsHeld_28 fl_Rf_16 (by first | rfl | assumption) (by rfl) ?_
      refine Run.iconst (v := nI 3) d_Rf_partsHeld_31 ic_3 ?_
      refine Run.iload_n d_Rf_partsHeld_32 rfl ?_
      first | refine Run.imul_n d_Rf_partsHeld_33 ?_ | refine Run.imul d_Rf_partsHeld_33 ?_
      refine Run.iald_n d_Rf_partsHeld_34 (by first | rfl | assumption) (by omega) (by omega) ?_
      rw [(hu2 i c9).1]
      have w2 := (b4 i c9).1
      have w3 : 2 ^ ptC c i < 2 ^ 5 := Nat.pow_lt_pow_right (by omega) w2
      first | refine Run.ishl_n d_Rf_partsHeld_35 (by omega) (by omega) ?_ | refine Run.ishl d_Rf_partsHeld_35 ?_
      refine Run.goto d_Rf_partsHeld_36 ?_
      first | refine Run.ior_n d_Rf_partsHeld_40 ?_ | refine Run.ior d_Rf_partsHeld_40 ?_
      refine Run.istore_n d_Rf_partsHeld_41 rfl rfl ?_
      show Run _ _ _ _ _ _ [_, _, _, _] _ _ _
      first | refine Run.iinc_n d_Rf_partsHeld_42 ic_1 rfl rfl ?_ | refine Run.iinc d_Rf_partsHeld_42 rfl rfl rfl ?_
      show Run _ _ _ _ _ _ [_, _, _, _] _ _ _
      refine Run.goto d_Rf_partsHeld_45 ?_
      exact run_cg (by simp [itN, hptF, c23]) (ih c9)
theorem c_Rf_tiltsOf {i j : Nat} (hc : coOK c) (hp : pgOK c p) (hr : RfAt h c) (hg : PgAt h 49 c p) (hi : i < npC c) (hj : j < nhC c) : Call X (d + 3) 0 0 M_Rf_tiltsOf [.ref 44, .int (nI i), .int (nI j)] h (Ret (.int (oI (tiltN c p i j))) h) := by
  show Run X (d + 3) 0 0 M_Rf_tiltsOf 0 [some (.ref 44), some (.int (nI i)), some (.int (nI j)), none, none, none, none] [] h _
  obtain ⟨ts, pl, rl, rh, rp, ac, tu, sd, mm, mf, rm, rf, fh, fp, g0, g1, g2, hu1, hu2⟩ := id hr
  have w1 : angN p i < 8 := Nat.mod_lt _ (by omega)
  have body : ∀ n, n ≤ 4 → ∀ (o : Int32) (v6 : Option Value), (∀ v6, Run X (d + 3) 0 0 M_Rf_tiltsOf 77 [some (.ref 44), some (.int (nI i)), some (.int (nI j)), some (.int (nI (angN p i))), some (.int (if tiltP c p i j n = true then nI n else o)), some (.int (nI n)), v6] [] h (Ret (.int (oI (tiltN c p i j))) h)) → Run X (d + 3) 0 0 M_Rf_tiltsOf 16 [some (.ref 44), some (.int (nI i)), some (.int (nI j)), some (.int (nI (angN p i))), some (.int o), some (.int (nI n)), v6] [] h (Ret (.int (oI (tiltN c p i j))) h) := by
    intro n hn o v6 kk
    have e2 : (angN p i + 8 - n) % 8 = (angN p i + (8 - n)) % 8 := by omega
    refine Run.iload d_Rf_tiltsOf_16 rfl ?_
    refine Run.if_lt d_Rf_tiltsOf_18 (fun c18 => ?_) (fun c18 => ?_)
    · exact absurd c18 (nI_pos (by omega))
    · refine Run.aload_n d_Rf_tiltsOf_21 rfl ?_
      refine Run.iload_n d_Rf_tiltsOf_22 rfl ?_
      refine Run.iload_n d_Rf_tiltsOf_23 rfl ?_
      refine Run.iload_n d_Rf_tiltsOf_24 rfl ?_
      refine Run.iload d_Rf_tiltsOf_25 rfl ?_
      first | refine Run.iadd_n d_Rf_tiltsOf_27 ?_ | refine Run.iadd d_Rf_tiltsOf_27 ?_
      refine Run.bipush (v := nI 8) d_Rf_tiltsOf_28 bp_8 ?_
      first | refine Run.irem_n d_Rf_tiltsOf_30 (by omega) (by omega) (by omega) ?_ | refine Run.irem d_Rf_tiltsOf_30 (by decide +kernel) ?_
      refine Run.V3r d_Rf_tiltsOf_31 lk_Rf_123 cm_Rf_showsTo iv_Rf_showsTo rfl (by first | rfl | assumption) (Nat.le_of_ble_eq_true rfl) (Nat.le_of_ble_eq_true rfl) (c_Rf_showsTo hc hr hi hj (Nat.mod_lt _ (by omega))) ?_
      first | refine Run.if_ne_b d_Rf_tiltsOf_34 (fun c34 => ?_) (fun c34 => ?_) | refine Run.if_ne_n d_Rf_tiltsOf_34 (by omega) (fun c34 => ?_) (fun c34 => ?_) | refine Run.if_ne d_Rf_tiltsOf_34 (fun c34 => ?_) (fun c34 => ?_)
      · refine Run.iconst (v := nI 1) d_Rf_tiltsOf_56 ic_1 ?_
        refine Run.goto d_Rf_tiltsOf_57 ?_
        refine Run.istore d_Rf_tiltsOf_61 rfl rfl ?_
        show Run _ _ _ _ _ _ [_, _, _, _, _, _, _] _ _ _
        refine Run.iload d_Rf_tiltsOf_63 rfl ?_
        first | refine Run.if_eq_b d_Rf_tiltsOf_65 (fun c65 => ?_) (fun c65 => ?_) | refine Run.if_eq_n d_Rf_tiltsOf_65 (by omega) (fun c65 => ?_) (fun c65 => ?_) | refine Run.if_eq d_Rf_tiltsOf_65 (fun c65 => ?_) (fun c65 => ?_)
        · refine Run.iload d_Rf_tiltsOf_73 rfl ?_
          refine Run.istore d_Rf_tiltsOf_75 rfl rfl ?_
          show Run _ _ _ _ _ _ [_, _, _, _, _, _, _] _ _ _
          first | (refine run_cg ?_ (kk (some (.int (nI 1)))); simp_all [tiltP]; done) | (refine run_cg ?_ (kk (some (.int (nI 0)))); simp_all [tiltP]; done)
        · refine Run.iload d_Rf_tiltsOf_68 rfl ?_
          refine Run.goto d_Rf_tiltsOf_70 ?_
          refine Run.istore d_Rf_tiltsOf_75 rfl rfl ?_
          show Run _ _ _ _ _ _ [_, _, _, _, _, _, _] _ _ _
          first | (refine run_cg ?_ (kk (some (.int (nI 1)))); simp_all [tiltP]; done) | (refine run_cg ?_ (kk (some (.int (nI 0)))); simp_all [tiltP]; done)
      · refine Run.aload_n d_Rf_tiltsOf_37 rfl ?_
        refine Run.iload_n d_Rf_tiltsOf_38 rfl ?_
        refine Run.iload_n d_Rf_tiltsOf_39 rfl ?_
        refine Run.iload_n d_Rf_tiltsOf_40 rfl ?_
        refine Run.bipush (v := nI 8) d_Rf_tiltsOf_41 bp_8 ?_
        first | refine Run.iadd_n d_Rf_tiltsOf_43 ?_ | refine Run.iadd d_Rf_tiltsOf_43 ?_
        refine Run.iload d_Rf_tiltsOf_44 rfl ?_
        first | refine Run.isub_n d_Rf_tiltsOf_46 (by omega) ?_ | refine Run.isub d_Rf_tiltsOf_46 ?_
        refine Run.bipush (v := nI 8) d_Rf_tiltsOf_47 bp_8 ?_
        first | refine Run.irem_n d_Rf_tiltsOf_49 (by omega) (by omega) (by omega) ?_ | refine Run.irem d_Rf_tiltsOf_49 (by decide +kernel) ?_
        refine Run.V3r d_Rf_tiltsOf_50 lk_Rf_123 cm_Rf_showsTo iv_Rf_showsTo rfl (by first | rfl | assumption) (Nat.le_of_ble_eq_true rfl) (Nat.le_of_ble_eq_true rfl) (c_Rf_showsTo hc hr hi hj (Nat.mod_lt _ (by omega))) ?_
        rw [e2]
        first | refine Run.if_eq_b d_Rf_tiltsOf_53 (fun c53 => ?_) (fun c53 => ?_) | refine Run.if_eq_n d_Rf_tiltsOf_53 (by omega) (fun c53 => ?_) (fun c53 => ?_) | refine Run.if_eq d_Rf_tiltsOf_53 (fun c53 => ?_) (fun c53 => ?_)
        · refine Run.iconst (v := nI 0) d_Rf_tiltsOf_60 ic_0 ?_
          refine Run.istore d_Rf_tiltsOf_61 rfl rfl ?_
          show Run _ _ _ _ _ _ [_, _, _, _, _, _, _] _ _ _
          refine Run.iload d_Rf_tiltsOf_63 rfl ?_
          first | refine Run.if_eq_b d_Rf_tiltsOf_65 (fun c65 => ?_) (fun c65 => ?_) | refine Run.if_eq_n d_Rf_tiltsOf_65 (by omega) (fun c65 => ?_) (fun c65 => ?_) | refine Run.if_eq d_Rf_tiltsOf_65 (fun c65 => ?_) (fun c65 => ?_)
          · refine Run.iload d_Rf_tiltsOf_73 rfl ?_
            refine Run.istore d_Rf_tiltsOf_75 rfl rfl ?_
            show Run _ _ _ _ _ _ [_, _, _, _, _, _, _] _ _ _
            first | (refine run_cg ?_ (kk (some (.int (nI 1)))); simp_all [tiltP]; done) | (refine run_cg ?_ (kk (some (.int (nI 0)))); simp_all [tiltP]; done)
          · refine Run.iload d_Rf_tiltsOf_68 rfl ?_
            refine Run.goto d_Rf_tiltsOf_70 ?_
            refine Run.istore d_Rf_tiltsOf_75 rfl rfl ?_
            show Run _ _ _ _ _ _ [_, _, _, _, _, _, _] _ _ _
            first | (refine run_cg ?_ (kk (some (.int (nI 1)))); simp_all [tiltP]; done) | (refine run_cg ?_ (kk (some (.int (nI 0)))); simp_all [tiltP]; done)
        · refine Run.iconst (v := nI 1) d_Rf_tiltsOf_56 ic_1 ?_
          refine Run.goto d_Rf_tiltsOf_57 ?_
          refine Run.istore d_Rf_tiltsOf_61 rfl rfl ?_
          show Run _ _ _ _ _ _ [_, _, _, _, _, _, _] _ _ _
          refine Run.iload d_Rf_tiltsOf_63 rfl ?_
          first | refine Run.if_eq_b d_Rf_tiltsOf_65 (fun c65 => ?_) (fun c65 => ?_) | refine Run.if_eq_n d_Rf_tiltsOf_65 (by omega) (fun c65 => ?_) (fun c65 => ?_) | refine Run.if_eq d_Rf_tiltsOf_65 (fun c65 => ?_) (fun c65 => ?_)
          · refine Run.iload d_Rf_tiltsOf_73 rfl ?_
            refine Run.istore d_Rf_tiltsOf_75 rfl rfl ?_
            show Run _ _ _ _ _ _ [_, _, _, _, _, _, _] _ _ _
            first | (refine run_cg ?_ (kk (some (.int (nI 1)))); simp_all [tiltP]; done) | (refine run_cg ?_ (kk (some (.int (nI 0)))); simp_all [tiltP]; done)
          · refine Run.iload d_Rf_tiltsOf_68 rfl ?_
            refine Run.goto d_Rf_tiltsOf_70 ?_
            refine Run.istore d_Rf_tiltsOf_75 rfl rfl ?_
            show Run _ _ _ _ _ _ [_, _, _, _, _, _, _] _ _ _
            first | (refine run_cg ?_ (kk (some (.int (nI 1)))); simp_all [tiltP]; done) | (refine run_cg ?_ (kk (some (.int (nI 0)))); simp_all [tiltP]; done)
  refine Run.aload_n d_Rf_tiltsOf_0 rfl ?_
  refine Run.getf d_Rf_tiltsOf_1 fl_Rf_25 (by first | rfl | assumption) (by rfl) ?_
  refine Run.iload_n d_Rf_tiltsOf_4 rfl ?_
  refine Run.S2r d_Rf_tiltsOf_5 lk_Rf_119 cm_Rf_angleOf st_Rf_angleOf (Nat.le_of_ble_eq_true rfl) (Nat.le_of_ble_eq_true rfl) (c_Rf_angleOf hc hp hg hi) ?_
  refine Run.istore_n d_Rf_tiltsOf_8 rfl rfl ?_
  show Run _ _ _ _ _ _ [_, _, _, _, _, _, _] _ _ _
  refine Run.bipush (v := -9) d_Rf_tiltsOf_9 bp_m9 ?_
  refine Run.istore d_Rf_tiltsOf_11 rfl rfl ?_
  show Run _ _ _ _ _ _ [_, _, _, _, _, _, _] _ _ _
  refine Run.iconst (v := nI 4) d_Rf_tiltsOf_13 ic_4 ?_
  refine Run.istore d_Rf_tiltsOf_14 rfl rfl ?_
  show Run _ _ _ _ _ _ [_, _, _, _, _, _, _] _ _ _
  refine body 4 (by omega) _ _ (fun v6 => ?_)
  first | refine Run.iinc_d d_Rf_tiltsOf_77 ic_m1 rfl rfl ?_ | refine Run.iinc d_Rf_tiltsOf_77 rfl rfl rfl ?_
  show Run _ _ _ _ _ _ [_, _, _, _, _, _, _] _ _ _
  refine Run.goto d_Rf_tiltsOf_80 ?_
  refine body 3 (by omega) _ _ (fun v6 => ?_)
  first | refine Run.iinc_d d_Rf_tiltsOf_77 ic_m1 rfl rfl ?_ | refine Run.iinc d_Rf_tiltsOf_77 rfl rfl rfl ?_
  show Run _ _ _ _ _ _ [_, _, _, _, _, _, _] _ _ _
  refine Run.goto d_Rf_tiltsOf_80 ?_
  refine body 2 (by omega) _ _ (fun v6 => ?_)
  first | refine Run.iinc_d d_Rf_tiltsOf_77 ic_m1 rfl rfl ?_ | refine Run.iinc d_Rf_tiltsOf_77 rfl rfl rfl ?_
  show Run _ _ _ _ _ _ [_, _, _, _, _, _, _] _ _ _
  refine Run.goto d_Rf_tiltsOf_80 ?_
  refine body 1 (by omega) _ _ (fun v6 => ?_)
  first | refine Run.iinc_d d_Rf_tiltsOf_77 ic_m1 rfl rfl ?_ | refine Run.iinc d_Rf_tiltsOf_77 rfl rfl rfl ?_
  show Run _ _ _ _ _ _ [_, _, _, _, _, _, _] _ _ _
  refine Run.goto d_Rf_tiltsOf_80 ?_
  refine body 0 (by omega) _ _ (fun v6 => ?_)
  refine Run.iinc (v := -1) d_Rf_tiltsOf_77 rfl (by decide +kernel) rfl ?_
  show Run _ _ _ _ _ _ [_, _, _, _, _, _, _] _ _ _
  refine Run.goto d_Rf_tiltsOf_80 ?_
  refine Run.iload d_Rf_tiltsOf_16 rfl ?_
  refine Run.if_lt d_Rf_tiltsOf_18 (fun c18 => ?_) (fun c18 => ?_)
  · refine Run.iload d_Rf_tiltsOf_83 rfl ?_
    refine Run.iret d_Rf_tiltsOf_85 rfl rfl ?_
    refine ret_i ?_
    rw [tiltN, fst5]
    cases tiltP c p i j 0 <;> cases tiltP c p i j 1 <;> cases tiltP c p i j 2 <;> cases tiltP c p i j 3 <;> cases tiltP c p i j 4 <;> rfl
  · exact absurd (by decide) c18
theorem c_Rf_findsOf {j t : Nat} (hc : coOK c) (hp : pgOK c p) (hr : RfAt h c) (hg : PgAt h 49 c p) (hj : j < nhC c) (htt : t < 100) : Call X (d + 4) 0 0 M_Rf_findsOf [.ref 44, .int (nI j), .int (nI t)] h (Ret (.int (oI (findN c p j t))) h) := by
  show Run X (d + 4) 0 0 M_Rf_findsOf 0 [some (.ref 44), some (.int (nI j)), some (.int (nI t)), none, none, none] [] h _
  obtain ⟨ts, pl, rl, rh, rp, ac, tu, sd, mm, mf, rm, rf, fh, fp, g0, g1, g2, hu1, hu2⟩ := id hr
  obtain ⟨f, s0, hv1, hv2, hv3⟩ := id hg
  obtain ⟨b1, b2, b3, b4⟩ := id hc
  refine Run.bipush (v := -9) d_Rf_findsOf_0 bp_m9 ?_
  refine Run.istore_n d_Rf_findsOf_2 rfl rfl ?_
  show Run _ _ _ _ _ _ [_, _, _, _, _, _] _ _ _
  refine Run.iconst (v := nI 0) d_Rf_findsOf_3 ic_0 ?_
  refine Run.istore d_Rf_findsOf_4 rfl rfl ?_
  show Run _ _ _ _ _ _ [_, _, _, _, _, _] _ _ _
  refine upto (npC c) (fun i => ∀ v5, Run X (d + 4) 0 0 M_Rf_findsOf 6 [some (.ref 44), some (.int (nI j)), some (.int (nI t)), some (.int (oI (itN (findF c p j t) none i))), some (.int (nI i)), v5] [] h _) ?_ 0 (Nat.zero_le _) _
  intro i hi ih v5
  have h49 : i < npC c → pgW p i = j → ptC c i = t → Run X (d + 4) 0 0 M_Rf_findsOf 49 [some (.ref 44), some (.int (nI j)), some (.int (nI t)), some (.int (oI (itN (findF c p j t) none i))), some (.int (nI i)), v5] [.int (oI (tiltN c p i j))] h (Ret (.int (oI (findN c p j t))) h) := by
    intro c15 c29 c43
    cases hb : tiltN c p i j with
    | none =>
      refine Run.istore d_Rf_findsOf_49 rfl rfl ?_
      show Run _ _ _ _ _ _ [_, _, _, _, _, _] _ _ _
      refine Run.iload d_Rf_findsOf_51 rfl ?_
      refine Run.bipush (v := -9) d_Rf_findsOf_53 bp_m9 ?_
      first | refine Run.icmp_eq_n d_Rf_findsOf_55 (by omega) (by omega) (fun c55 => ?_) (fun c55 => ?_) | refine Run.icmp_eq d_Rf_findsOf_55 (fun c55 => ?_) (fun c55 => ?_)
      · refine Run.iload_n d_Rf_findsOf_75 rfl ?_
        refine Run.istore_n d_Rf_findsOf_76 rfl rfl ?_
        show Run _ _ _ _ _ _ [_, _, _, _, _, _] _ _ _
        first | refine Run.iinc_n d_Rf_findsOf_77 ic_1 rfl rfl ?_ | refine Run.iinc d_Rf_findsOf_77 rfl rfl rfl ?_
        show Run _ _ _ _ _ _ [_, _, _, _, _, _] _ _ _
        refine Run.goto d_Rf_findsOf_80 ?_
        exact run_cg (by simp [itN, findF, c29, c43, hb]) (ih c15 (some (.int (oI none))))
      · exact absurd rfl c55
    | some b =>
      have hb5 := tiltN_lt hb
      cases ha : itN (findF c p j t) none i with
      | none =>
        show Run _ _ _ _ _ _ [_, _, _, some (.int (-9)), _, _] [.int (nI b)] _ _
        refine Run.istore d_Rf_findsOf_49 rfl rfl ?_
        show Run _ _ _ _ _ _ [_, _, _, _, _, _] _ _ _
        refine Run.iload d_Rf_findsOf_51 rfl ?_
        refine Run.bipush (v := -9) d_Rf_findsOf_53 bp_m9 ?_
        first | refine Run.icmp_eq_n d_Rf_findsOf_55 (by omega) (by omega) (fun c55 => ?_) (fun c55 => ?_) | refine Run.icmp_eq d_Rf_findsOf_55 (fun c55 => ?_) (fun c55 => ?_)
        · exact absurd c55 (nI_n9 (by omega))
        · refine Run.iload_n d_Rf_findsOf_58 rfl ?_
          refine Run.bipush (v := -9) d_Rf_findsOf_59 bp_m9 ?_
          first | refine Run.icmp_eq_n d_Rf_findsOf_61 (by omega) (by omega) (fun c61 => ?_) (fun c61 => ?_) | refine Run.icmp_eq d_Rf_findsOf_61 (fun c61 => ?_) (fun c61 => ?_)
          · refine Run.iload d_Rf_findsOf_70 rfl ?_
            refine Run.goto d_Rf_findsOf_72 ?_
            refine Run.istore_n d_Rf_findsOf_76 rfl rfl ?_
            show Run _ _ _ _ _ _ [_, _, _, _, _, _] _ _ _
            first | refine Run.iinc_n d_Rf_findsOf_77 ic_1 rfl rfl ?_ | refine Run.iinc d_Rf_findsOf_77 rfl rfl rfl ?_
            show Run _ _ _ _ _ _ [_, _, _, _, _, _] _ _ _
            refine Run.goto d_Rf_findsOf_80 ?_
            exact run_cg (by simp [itN, findF, c29, c43, hb, ha, oI]) (ih c15 (some (.int (nI b))))
          · exact absurd rfl c61
      | some a =>
        have ha5 := findN_lt i a ha
        show Run _ _ _ _ _ _ [_, _, _, some (.int (nI a)), _, _] [.int (nI b)] _ _
        refine Run.istore d_Rf_findsOf_49 rfl rfl ?_
        show Run _ _ _ _ _ _ [_, _, _, _, _, _] _ _ _
        refine Run.iload d_Rf_findsOf_51 rfl ?_
        refine Run.bipush (v := -9) d_Rf_findsOf_53 bp_m9 ?_
        first | refine Run.icmp_eq_n d_Rf_findsOf_55 (by omega) (by omega) (fun c55 => ?_) (fun c55 => ?_) | refine Run.icmp_eq d_Rf_findsOf_55 (fun c55 => ?_) (fun c55 => ?_)
        · exact absurd c55 (nI_n9 (by omega))
        · refine Run.iload_n d_Rf_findsOf_58 rfl ?_
          refine Run.bipush (v := -9) d_Rf_findsOf_59 bp_m9 ?_
          first | refine Run.icmp_eq_n d_Rf_findsOf_61 (by omega) (by omega) (fun c61 => ?_) (fun c61 => ?_) | refine Run.icmp_eq d_Rf_findsOf_61 (fun c61 => ?_) (fun c61 => ?_)
          · exact absurd c61 (nI_n9 (by omega))
          · refine Run.iload d_Rf_findsOf_64 rfl ?_
            refine Run.iload_n d_Rf_findsOf_66 rfl ?_
            first | refine Run.icmp_ge_n d_Rf_findsOf_67 (by omega) (by omega) (fun c67 => ?_) (fun c67 => ?_) | refine Run.icmp_ge d_Rf_findsOf_67 (fun c67 => ?_) (fun c67 => ?_)
            · refine Run.iload_n d_Rf_findsOf_75 rfl ?_
              refine Run.istore_n d_Rf_findsOf_76 rfl rfl ?_
              show Run _ _ _ _ _ _ [_, _, _, _, _, _] _ _ _
              first | refine Run.iinc_n d_Rf_findsOf_77 ic_1 rfl rfl ?_ | refine Run.iinc d_Rf_findsOf_77 rfl rfl rfl ?_
              show Run _ _ _ _ _ _ [_, _, _, _, _, _] _ _ _
              refine Run.goto d_Rf_findsOf_80 ?_
              first
              | (refine run_cg ?_ (ih c15 (some (.int (nI b)))); simp [itN, findF, c29, c43, hb, ha, oI, c67]; done)
              | (refine run_cg ?_ (ih c15 (some (.int (nI b)))); simp [itN, findF, c29, c43, hb, ha, oI, Nat.not_lt.mpr c67]; done)
            · refine Run.iload d_Rf_findsOf_70 rfl ?_
              refine Run.goto d_Rf_findsOf_72 ?_
              refine Run.istore_n d_Rf_findsOf_76 rfl rfl ?_
              show Run _ _ _ _ _ _ [_, _, _, _, _, _] _ _ _
              first | refine Run.iinc_n d_Rf_findsOf_77 ic_1 rfl rfl ?_ | refine Run.iinc d_Rf_findsOf_77 rfl rfl rfl ?_
              show Run _ _ _ _ _ _ [_, _, _, _, _, _] _ _ _
              refine Run.goto d_Rf_findsOf_80 ?_
              first
              | (refine run_cg ?_ (ih c15 (some (.int (nI b)))); simp [itN, findF, c29, c43, hb, ha, oI, c67]; done)
              | (refine run_cg ?_ (ih c15 (some (.int (nI b)))); simp [itN, findF, c29, c43, hb, ha, oI, Nat.not_lt.mpr c67]; done)
  refine Run.iload d_Rf_findsOf_6 rfl ?_
  refine Run.aload_n d_Rf_findsOf_8 rfl ?_
  refine Run.getf d_Rf_findsOf_9 fl_Rf_70 (by first | rfl | assumption) (by rfl) ?_
  first | refine Run.icmp_ge_n d_Rf_findsOf_12 (by omega) (by omega) (fun c12 => ?_) (fun c12 => ?_) | refine Run.icmp_ge d_Rf_findsOf_12 (fun c12 => ?_) (fun c12 => ?_)
  · refine Run.iload_n d_Rf_findsOf_83 rfl ?_
    refine Run.iret d_Rf_findsOf_84 rfl rfl ?_
    exact ret_i (by rw [show i = npC c by omega]; rfl)
  · refine Run.aload_n d_Rf_findsOf_15 rfl ?_
    refine Run.getf d_Rf_findsOf_16 fl_Rf_25 (by first | rfl | assumption) (by rfl) ?_
    refine Run.bipush (v := nI 6) d_Rf_findsOf_19 bp_6 ?_
    refine Run.iload d_Rf_findsOf_21 rfl ?_
    first | refine Run.iadd_n d_Rf_findsOf_23 ?_ | refine Run.iadd d_Rf_findsOf_23 ?_
    refine Run.iald_n d_Rf_findsOf_24 (by first | rfl | assumption) (by omega) (by omega) ?_
    rw [(hv1 i c12).2]
    have w1 := (hp.2.2 i c12).2
    refine Run.iload_n d_Rf_findsOf_25 rfl ?_
    first | refine Run.icmp_ne_n d_Rf_findsOf_26 (by omega) (by omega) (fun c26 => ?_) (fun c26 => ?_) | refine Run.icmp_ne d_Rf_findsOf_26 (fun c26 => ?_) (fun c26 => ?_)
    · first | refine Run.iinc_n d_Rf_findsOf_77 ic_1 rfl rfl ?_ | refine Run.iinc d_Rf_findsOf_77 rfl rfl rfl ?_
      show Run _ _ _ _ _ _ [_, _, _, _, _, _] _ _ _
      refine Run.goto d_Rf_findsOf_80 ?_
      first
      | (refine run_cg ?_ (ih c12 v5); simp [itN, findF, c26]; done)
      | (refine run_cg ?_ (ih c12 v5); simp [itN, findF, c39]; done)
    · refine Run.aload_n d_Rf_findsOf_29 rfl ?_
      refine Run.getf d_Rf_findsOf_30 fl_Rf_16 (by first | rfl | assumption) (by rfl) ?_
      refine Run.iconst (v := nI 3) d_Rf_findsOf_33 ic_3 ?_
      refine Run.iload d_Rf_findsOf_34 rfl ?_
      first | refine Run.imul_n d_Rf_findsOf_36 ?_ | refine Run.imul d_Rf_findsOf_36 ?_
      refine Run.iald_n d_Rf_findsOf_37 (by first | rfl | assumption) (by omega) (by omega) ?_
      rw [(hu2 i c12).1]
      have w2 := (b4 i c12).1
      refine Run.iload_n d_Rf_findsOf_38 rfl ?_
      first | refine Run.icmp_ne_n d_Rf_findsOf_39 (by omega) (by omega) (fun c39 => ?_) (fun c39 => ?_) | refine Run.icmp_ne d_Rf_findsOf_39 (fun c39 => ?_) (fun c39 => ?_)
      · first | refine Run.iinc_n d_Rf_findsOf_77 ic_1 rfl rfl ?_ | refine Run.iinc d_Rf_findsOf_77 rfl rfl rfl ?_
        show Run _ _ _ _ _ _ [_, _, _, _, _, _] _ _ _
        refine Run.goto d_Rf_findsOf_80 ?_
        first
        | (refine run_cg ?_ (ih c12 v5); simp [itN, findF, c26]; done)
        | (refine run_cg ?_ (ih c12 v5); simp [itN, findF, c39]; done)
      · refine Run.aload_n d_Rf_findsOf_42 rfl ?_
        refine Run.iload d_Rf_findsOf_43 rfl ?_
        refine Run.iload_n d_Rf_findsOf_45 rfl ?_
        refine Run.V2r d_Rf_findsOf_46 lk_Rf_172 cm_Rf_tiltsOf iv_Rf_tiltsOf rfl (by first | rfl | assumption) (Nat.le_of_ble_eq_true rfl) (Nat.le_of_ble_eq_true rfl) (c_Rf_tiltsOf hc hp hr hg c12 hj) ?_
        exact h49 c12 c26 c39
end RFINDS
