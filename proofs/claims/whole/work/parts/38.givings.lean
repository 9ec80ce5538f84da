/-! ===== giving: both sides whole ===== -/
theorem c_St_angleRaw {X : Nat × (Nat → Int32)} {d : Nat} {h : AH} {k i : Nat} {v1 v3 v4 : Value} {li : Int32} {ft : FI} (h0 : h[k]? = some (.inr (4, [.ref (k + 2), v1, .int li, v3, v4]))) (h1 : h[k + 1]? = some (.inl (.int, 6, .inl ft))) (hi : i < 6) : Call X (d + 1) 0 0 M_St_angleOf [.ref (k + 1), .int (nI i)] h (Ret (.int (nI (m8 (ft i + li)))) h) := by
  show Run X (d + 1) 0 0 M_St_angleOf 0 [some (.ref (k + 1)), some (.int (nI i))] [] h _
  refine Run.iload_n d_St_angleOf_0 rfl ?_
  refine Run.bipush (v := nI 6) d_St_angleOf_1 bp_6 ?_
  refine Run.S2r d_St_angleOf_3 lk_St_35 cm_PM_isBelow st_PM_isBelow (Nat.le_of_ble_eq_true rfl) (Nat.le_of_ble_eq_true rfl) (c_PM_isBelow) ?_
  first | refine Run.if_eq_b d_St_angleOf_6 (fun c6 => ?_) (fun c6 => ?_) | refine Run.if_eq_n d_St_angleOf_6 (by omega) (fun c6 => ?_) (fun c6 => ?_) | refine Run.if_eq d_St_angleOf_6 (fun c6 => ?_) (fun c6 => ?_)
  · exact (inB_f hi (by omega) c6).elim
  · refine Run.aload_n d_St_angleOf_9 rfl ?_
    refine Run.getf d_St_angleOf_10 fl_St_9 (by first | rfl | assumption) (by rfl) ?_
    refine Run.iload_n d_St_angleOf_13 rfl ?_
    refine Run.iald_n d_St_angleOf_14 (by first | rfl | assumption) (by omega) (by omega) ?_
    refine Run.aload_n d_St_angleOf_15 rfl ?_
    refine Run.getf d_St_angleOf_16 fl_St_25 (by first | rfl | assumption) (by rfl) ?_
    first | refine Run.iadd_n d_St_angleOf_19 ?_ | refine Run.iadd d_St_angleOf_19 ?_
    refine Run.S1r d_St_angleOf_20 lk_St_39 cm_PM_byEight st_PM_byEight (Nat.le_of_ble_eq_true rfl) (Nat.le_of_ble_eq_true rfl) (c_PM_byEight) ?_
    refine Run.goto d_St_angleOf_23 ?_
    refine Run.iret d_St_angleOf_27 rfl rfl ?_
    exact ⟨rfl, rfl⟩
theorem c_Gi_seersOf {X : Nat × (Nat → Int32)} {d : Nat} {h : AH} {c : CA} {k i : Nat} {x : Int32} (hc : coOK c) (hco : CoAt h k c) (hi : i < 6) : Call X (d + 4) 0 0 M_Gi_seersOf [.ref (k + 1), .int (nI i), .int x] h (Ret (.int (nI (if i < npC c then itN (fun j acc => if sh c i j (m8 x) = true then acc ||| 2 ^ j else acc) 0 (nhC c) else 0))) h) := by
  show Run X (d + 4) 0 0 M_Gi_seersOf 0 [some (.ref (k + 1)), some (.int (nI i)), some (.int x), none, none] [] h _
  obtain ⟨fhk, fpt, fan, fkd, fhd, li, g0, g1, g2, g3, g4, g5, hv1, hv2⟩ := id hco
  have b1 := hc.1
  have key : ∀ j, j ≤ nhC c → Run X (d + 4) 0 0 M_Gi_seersOf 5 [some (.ref (k + 1)), some (.int (nI i)), some (.int x), some (.int (nI (if i < npC c then itN (fun j acc => if sh c i j (m8 x) = true then acc ||| 2 ^ j else acc) 0 j else 0))), some (.int (nI j))] [] h (Ret (.int (nI (if i < npC c then itN (fun j acc => if sh c i j (m8 x) = true then acc ||| 2 ^ j else acc) 0 (nhC c) else 0))) h) := by
    refine upto (nhC c) (fun j => Run X (d + 4) 0 0 M_Gi_seersOf 5 [some (.ref (k + 1)), some (.int (nI i)), some (.int x), some (.int (nI (if i < npC c then itN (fun j acc => if sh c i j (m8 x) = true then acc ||| 2 ^ j else acc) 0 j else 0))), some (.int (nI j))] [] h (Ret (.int (nI (if i < npC c then itN (fun j acc => if sh c i j (m8 x) = true then acc ||| 2 ^ j else acc) 0 (nhC c) else 0))) h)) ?_
    intro j hj ih
    have hst : (if i < npC c then itN (fun j acc => if sh c i j (m8 x) = true then acc ||| 2 ^ j else acc) 0 (j + 1) else 0) = (if (decide (i < npC c) && sh c i j (m8 x)) = true then (if i < npC c then itN (fun j acc => if sh c i j (m8 x) = true then acc ||| 2 ^ j else acc) 0 j else 0) ||| 2 ^ j else (if i < npC c then itN (fun j acc => if sh c i j (m8 x) = true then acc ||| 2 ^ j else acc) 0 j else 0)) := by
      by_cases hin : i < npC c
      · rw [if_pos hin, if_pos hin, decide_eq_true hin, Bool.true_and]
        rfl
      · rw [if_neg hin, if_neg hin, decide_eq_false hin, Bool.false_and]
        rfl
    rw [hst] at ih
    generalize hA : (if i < npC c then itN (fun j acc => if sh c i j (m8 x) = true then acc ||| 2 ^ j else acc) 0 j else 0) = A at ih ⊢
    refine Run.iload d_Gi_seersOf_5 rfl ?_
    refine Run.aload_n d_Gi_seersOf_7 rfl ?_
    refine Run.getf d_Gi_seersOf_8 fl_Gi_21 (by first | rfl | assumption) (by rfl) ?_
    first | refine Run.icmp_ge_n d_Gi_seersOf_11 (by omega) (by omega) (fun c11 => ?_) (fun c11 => ?_) | refine Run.icmp_ge d_Gi_seersOf_11 (fun c11 => ?_) (fun c11 => ?_)
    · refine Run.iload_n d_Gi_seersOf_38 rfl ?_
      refine Run.iret d_Gi_seersOf_39 rfl rfl ?_
      have e8 : j = nhC c := by omega
      rw [e8] at hA
      exact ret_n hA.symm
    · refine Run.aload_n d_Gi_seersOf_14 rfl ?_
      refine Run.iload_n d_Gi_seersOf_15 rfl ?_
      refine Run.iload d_Gi_seersOf_16 rfl ?_
      refine Run.iload_n d_Gi_seersOf_18 rfl ?_
      refine Run.V3r d_Gi_seersOf_19 lk_Gi_49 cm_Co_showsAt iv_Co_showsAt rfl (by first | rfl | assumption) (Nat.le_of_ble_eq_true rfl) (Nat.le_of_ble_eq_true rfl) (c_Co_showsAt hc hco (by omega) (by omega)) ?_
      rw [decide_eq_true c11, Bool.true_and]
      first | refine Run.if_eq_b d_Gi_seersOf_22 (fun c22 => ?_) (fun c22 => ?_) | refine Run.if_eq_n d_Gi_seersOf_22 (by omega) (fun c22 => ?_) (fun c22 => ?_) | refine Run.if_eq d_Gi_seersOf_22 (fun c22 => ?_) (fun c22 => ?_)
      · first | refine Run.iinc_n d_Gi_seersOf_32 ic_1 rfl rfl ?_ | refine Run.iinc d_Gi_seersOf_32 rfl rfl rfl ?_
        show Run _ _ _ _ _ _ [_, _, _, _, _] _ _ _
        refine Run.goto d_Gi_seersOf_35 ?_
        first
        | (have q0 : _ = true := c22; refine run_cg ?_ (ih c11); rw [if_pos q0])
        | (have q0 : _ = false := c22; refine run_cg ?_ (ih c11); rw [if_neg (by rw [q0]; decide)])
      · refine Run.iload_n d_Gi_seersOf_25 rfl ?_
        refine Run.iconst (v := nI 1) d_Gi_seersOf_26 ic_1 ?_
        refine Run.iload d_Gi_seersOf_27 rfl ?_
        have w3 : 2 ^ j < 2 ^ 4 := Nat.pow_lt_pow_right (by omega) (by omega)
        first | refine Run.ishl_n d_Gi_seersOf_29 (by omega) (by omega) ?_ | refine Run.ishl d_Gi_seersOf_29 ?_
        rw [Nat.one_mul]
        first | refine Run.ior_n d_Gi_seersOf_30 ?_ | refine Run.ior d_Gi_seersOf_30 ?_
        refine Run.istore_n d_Gi_seersOf_31 rfl rfl ?_
        show Run _ _ _ _ _ _ [_, _, _, _, _] _ _ _
        first | refine Run.iinc_n d_Gi_seersOf_32 ic_1 rfl rfl ?_ | refine Run.iinc d_Gi_seersOf_32 rfl rfl rfl ?_
        show Run _ _ _ _ _ _ [_, _, _, _, _] _ _ _
        refine Run.goto d_Gi_seersOf_35 ?_
        first
        | (have q0 : _ = true := c22; refine run_cg ?_ (ih c11); rw [if_pos q0])
        | (have q0 : _ = false := c22; refine run_cg ?_ (ih c11); rw [if_neg (by rw [q0]; decide)])
  have k0 := key 0 (Nat.zero_le _)
  rw [show (if i < npC c then itN (fun j acc => if sh c i j (m8 x) = true then acc ||| 2 ^ j else acc) 0 0 else 0) = 0 by split <;> rfl] at k0
  refine Run.iconst (v := nI 0) d_Gi_seersOf_0 ic_0 ?_
  refine Run.istore_n d_Gi_seersOf_1 rfl rfl ?_
  show Run _ _ _ _ _ _ [_, _, _, _, _] _ _ _
  refine Run.iconst (v := nI 0) d_Gi_seersOf_2 ic_0 ?_
  refine Run.istore d_Gi_seersOf_3 rfl rfl ?_
  show Run _ _ _ _ _ _ [_, _, _, _, _] _ _ _
  exact k0
section GIVE2
variable {X : Nat × (Nat → Int32)} {d : Nat} {c : CA} {p : PG} {t : AH} {tx : TxS} {ca cb : CoS} {kt kd : Nat} {sd : Int64} {nw tr s0 s1 : StS} {ac : AcS} {tu : TuS} {gi : GiS} {mo : MoS} {dn ch : FI} {fp fs fh : FI}
def GiV (c : CA) (p : PG) (fp fs fh : FI) (s : Nat) : Prop := (∀ i, s ≤ i → i < npC c → fp i = nI (ptC c i)) ∧ (∀ i, s ≤ i → i < 6 → fs i = nI (serN c p i)) ∧ ∀ i, s ≤ i → i ≤ 6 → fh i = nI (hpN c p (6 - i))
theorem r_gibegin36 (hc : coOK c) (hp : pgOK c p) (ht : TR c ca cb kt kd) (hst : StR c p nw) : ∀ s, s ≤ 6 → ∀ fp fs fh : FI, GiV c p fp fs fh s → Run X (d + 5) 0 0 M_Gi_begin 36 [some (.ref 29), some (.ref (kt + 1)), some (.ref 16), some (.int (nI s + -1))] [] (hX tx ca cb kt kd sd nw tr ac tu (fp, fs, fh, nI (nhC c), nI (npC c), -1, nI 0) mo dn ch s0 s1 ++ t) (fun r h2 => r = none ∧ ∃ fp2 fs2 fh2, GiV c p fp2 fs2 fh2 0 ∧ h2 = hX tx ca cb kt kd sd nw tr ac tu (fp2, fs2, fh2, nI (nhC c), nI (npC c), -1, nI 0) mo dn ch s0 s1 ++ t) := by
  have b2 := hc.2.1
  intro s
  induction s with
  | zero =>
    intro hs fp fs fh hV
    rw [show nI 0 + -1 = (-1 : Int32) from by decide +kernel]
    refine Run.iload_n d_Gi_begin_36 rfl ?_
    refine Run.if_lt d_Gi_begin_37 (fun c37 => ?_) (fun c37 => ?_)
    · refine Run.vret d_Gi_begin_103 rfl ?_
      exact ⟨rfl, fp, fs, fh, hV, rfl⟩
    · exact absurd (by decide) c37
  | succ s ih =>
    intro hs fp fs fh hV
    rw [pk_m1]
    have hco := TR.at (tx := tx) (sd := sd) (nw := nw) (tr := tr) (ac := ac) (tu := tu) (gi := (fp, fs, fh, nI (nhC c), nI (npC c), -1, nI 0)) (mo := mo) (dn := dn) (ch := ch) (s0 := s0) (s1 := s1) (t := t) ht
    obtain ⟨fhk, fpt, fan, fkd, fhd, li, g0, g1, g2, g3, g4, g5, hv1, hv2⟩ := id hco
    have hco2 := TR.at (tx := tx) (sd := sd) (nw := nw) (tr := tr) (ac := ac) (tu := tu) (gi := (upd fp s (fpt s), fs, fh, nI (nhC c), nI (npC c), -1, nI 0)) (mo := mo) (dn := dn) (ch := ch) (s0 := s0) (s1 := s1) (t := t) ht
    have hser : (if s < npC c then itN (fun j acc => if sh c s j (m8 (nI (m8 (nw.1 s + nw.2.2.1)))) = true then acc ||| 2 ^ j else acc) 0 (nhC c) else 0) = serN c p s := by
      rw [serN]
      by_cases hin : s < npC c
      · rw [if_pos hin, if_pos hin, m8_nI, (hst.1 s hin).1, hst.2.1, nI_add, m8_nI, Nat.mod_mod]
        rfl
      · rw [if_neg hin, if_neg hin]
    have ws := ser_lt hc p s
    have wh := hp_le c p (6 - (s + 1))
    have hh1 : fh (s + 1) = nI (hpN c p (6 - (s + 1))) := hV.2.2 (s + 1) (by omega) (by omega)
    have hps := hp_s c p (i := s) (by omega)
    have hend : GiV c p (upd fp s (fpt s)) (upd fs s (nI (serN c p s))) (upd fh s (nI (hpN c p (6 - s)))) s := by
      refine ⟨fun i h1 h2 => ?_, fun i h1 h2 => ?_, fun i h1 h2 => ?_⟩
      · by_cases e : i = s
        · subst e; rw [pk_us]; exact (hv2 i h2).1
        · rw [pk_un e]; exact hV.1 i (by omega) h2
      · by_cases e : i = s
        · subst e; exact pk_us
        · rw [pk_un e]; exact hV.2.1 i (by omega) h2
      · by_cases e : i = s
        · subst e; exact pk_us
        · rw [pk_un e]; exact hV.2.2 i (by omega) h2
    have key := ih (by omega) _ _ _ hend
    rw [hps] at key
    refine Run.iload_n d_Gi_begin_36 rfl ?_
    refine Run.if_lt d_Gi_begin_37 (fun c37 => ?_) (fun c37 => ?_)
    · exact absurd c37 (nI_pos (by omega))
    · refine Run.aload_n d_Gi_begin_40 rfl ?_
      refine Run.getf d_Gi_begin_41 fl_Gi_9 (by first | rfl | assumption) (by rfl) ?_
      refine Run.iload_n d_Gi_begin_44 rfl ?_
      refine Run.aload_n d_Gi_begin_45 rfl ?_
      refine Run.getf d_Gi_begin_46 fl_Gi_38 (by first | rfl | assumption) (by rfl) ?_
      refine Run.iload_n d_Gi_begin_49 rfl ?_
      refine Run.iald_n d_Gi_begin_50 (by first | rfl | assumption) (by omega) (by omega) ?_
      refine Run.iast_n d_Gi_begin_51 (by first | rfl | assumption) (by omega) (by omega) ?_
      refine run_hp (show _ = hX tx ca cb kt kd sd nw tr ac tu ((upd fp s (fpt s)), fs, fh, nI (nhC c), nI (npC c), -1, nI 0) mo dn ch s0 s1 ++ t from rfl) ?_
      refine Run.aload_n d_Gi_begin_52 rfl ?_
      refine Run.getf d_Gi_begin_53 fl_Gi_15 (by first | rfl | assumption) (by rfl) ?_
      refine Run.iload_n d_Gi_begin_56 rfl ?_
      refine Run.aload_n d_Gi_begin_57 rfl ?_
      refine Run.iload_n d_Gi_begin_58 rfl ?_
      refine Run.aload_n d_Gi_begin_59 rfl ?_
      refine Run.iload_n d_Gi_begin_60 rfl ?_
      refine Run.V1r d_Gi_begin_61 lk_Gi_39 cm_St_angleOf iv_St_angleOf rfl (by first | rfl | assumption) (Nat.le_of_ble_eq_true rfl) (Nat.le_of_ble_eq_true rfl) (c_St_angleRaw (k := 15) (ft := nw.1) (li := nw.2.2.1) rfl rfl (by omega)) ?_
      refine Run.S3r d_Gi_begin_64 lk_Gi_45 cm_Gi_seersOf st_Gi_seersOf (Nat.le_of_ble_eq_true rfl) (Nat.le_of_ble_eq_true rfl) (c_Gi_seersOf hc hco2 (by omega)) ?_
      rw [hser]
      refine Run.iast_n d_Gi_begin_67 (by first | rfl | assumption) (by omega) (by omega) ?_
      refine run_hp (show _ = hX tx ca cb kt kd sd nw tr ac tu ((upd fp s (fpt s)), (upd fs s (nI (serN c p s))), fh, nI (nhC c), nI (npC c), -1, nI 0) mo dn ch s0 s1 ++ t from rfl) ?_
      refine Run.aload_n d_Gi_begin_68 rfl ?_
      refine Run.getf d_Gi_begin_69 fl_Gi_18 (by first | rfl | assumption) (by rfl) ?_
      refine Run.iload_n d_Gi_begin_72 rfl ?_
      refine Run.aload_n d_Gi_begin_73 rfl ?_
      refine Run.getf d_Gi_begin_74 fl_Gi_18 (by first | rfl | assumption) (by rfl) ?_
      refine Run.iload_n d_Gi_begin_77 rfl ?_
      refine Run.iconst (v := nI 1) d_Gi_begin_78 ic_1 ?_
      first | refine Run.iadd_n d_Gi_begin_79 ?_ | refine Run.iadd d_Gi_begin_79 ?_
      refine Run.iald_n d_Gi_begin_80 (by first | rfl | assumption) (by omega) (by omega) ?_
      rw [show (upd fp s (fpt s), upd fs s (nI (serN c p s)), fh, nI (nhC c), nI (npC c), (-1 : Int32), nI 0).2.2.1 (s + 1) = nI (hpN c p (6 - (s + 1))) from hh1]
      refine Run.aload_n d_Gi_begin_81 rfl ?_
      refine Run.getf d_Gi_begin_82 fl_Gi_15 (by first | rfl | assumption) (by rfl) ?_
      refine Run.iload_n d_Gi_begin_85 rfl ?_
      refine Run.iald_n d_Gi_begin_86 (by first | rfl | assumption) (by omega) (by omega) ?_
      rw [show (upd fp s (fpt s), upd fs s (nI (serN c p s)), fh, nI (nhC c), nI (npC c), (-1 : Int32), nI 0).2.1 s = nI (serN c p s) from pk_us]
      first | refine Run.if_ne_b d_Gi_begin_87 (fun c87 => ?_) (fun c87 => ?_) | refine Run.if_ne_n d_Gi_begin_87 (by omega) (fun c87 => ?_) (fun c87 => ?_) | refine Run.if_ne d_Gi_begin_87 (fun c87 => ?_) (fun c87 => ?_)
      · refine Run.iconst (v := nI 1) d_Gi_begin_94 ic_1 ?_
        first | refine Run.iadd_n d_Gi_begin_95 ?_ | refine Run.iadd d_Gi_begin_95 ?_
        refine Run.iast_n d_Gi_begin_96 (by first | rfl | assumption) (by omega) (by omega) ?_
        first | refine Run.iinc_d d_Gi_begin_97 ic_m1 rfl rfl ?_ | refine Run.iinc d_Gi_begin_97 rfl rfl rfl ?_
        show Run _ _ _ _ _ _ [_, _, _, _] _ _ _
        rw [ic_m1]
        refine Run.goto d_Gi_begin_100 ?_
        first
        | (have q0 : ¬ serN c p s = 0 := c87; rw [if_neg q0] at key; exact key)
        | (have q0 : serN c p s = 0 := c87; rw [if_pos q0] at key; exact key)
      · refine Run.iconst (v := nI 0) d_Gi_begin_90 ic_0 ?_
        refine Run.goto d_Gi_begin_91 ?_
        first | refine Run.iadd_n d_Gi_begin_95 ?_ | refine Run.iadd d_Gi_begin_95 ?_
        refine Run.iast_n d_Gi_begin_96 (by first | rfl | assumption) (by omega) (by omega) ?_
        first | refine Run.iinc_d d_Gi_begin_97 ic_m1 rfl rfl ?_ | refine Run.iinc d_Gi_begin_97 rfl rfl rfl ?_
        show Run _ _ _ _ _ _ [_, _, _, _] _ _ _
        rw [ic_m1]
        refine Run.goto d_Gi_begin_100 ?_
        first
        | (have q0 : ¬ serN c p s = 0 := c87; rw [if_neg q0] at key; exact key)
        | (have q0 : serN c p s = 0 := c87; rw [if_pos q0] at key; exact key)
theorem q_Gi_begin (hc : coOK c) (hp : pgOK c p) (ht : TR c ca cb kt kd) (hst : StR c p nw) : Call X (d + 5) 0 0 M_Gi_begin [.ref 29, .ref (kt + 1), .ref 16] (hX tx ca cb kt kd sd nw tr ac tu gi mo dn ch s0 s1 ++ t) (fun r h2 => r = none ∧ ∃ fp2 fs2 fh2, GiV c p fp2 fs2 fh2 0 ∧ h2 = hX tx ca cb kt kd sd nw tr ac tu (fp2, fs2, fh2, nI (nhC c), nI (npC c), -1, nI 0) mo dn ch s0 s1 ++ t) := by
  show Run X (d + 5) 0 0 M_Gi_begin 0 [some (.ref 29), some (.ref (kt + 1)), some (.ref 16), none] [] _ _
  obtain ⟨fp, fs, fh, z1, z2, z3, z4⟩ := gi
  have hco := TR.at (tx := tx) (sd := sd) (nw := nw) (tr := tr) (ac := ac) (tu := tu) (gi := (fp, fs, fh, z1, z2, z3, z4)) (mo := mo) (dn := dn) (ch := ch) (s0 := s0) (s1 := s1) (t := t) ht
  obtain ⟨fhk, fpt, fan, fkd, fhd, li, g0, -⟩ := id hco
  have hco2 := TR.at (tx := tx) (sd := sd) (nw := nw) (tr := tr) (ac := ac) (tu := tu) (gi := (fp, fs, fh, nI (nhC c), z2, z3, z4)) (mo := mo) (dn := dn) (ch := ch) (s0 := s0) (s1 := s1) (t := t) ht
  obtain ⟨fhk', fpt', fan', fkd', fhd', li', g0', -⟩ := id hco2
  have hV : GiV c p fp fs (upd fh 6 (nI 0)) 6 := ⟨fun i h1 h2 => by have := hc.2.1; omega, fun i h1 h2 => by omega, fun i h1 h2 => by rw [show i = 6 by omega, pk_us]; rfl⟩
  refine Run.aload_n d_Gi_begin_0 rfl ?_
  refine Run.aload_n d_Gi_begin_1 rfl ?_
  refine Run.getf d_Gi_begin_2 fl_Gi_21 (by first | rfl | assumption) (by rfl) ?_
  refine Run.putf d_Gi_begin_5 fl_Gi_27 (fun _ => rfl) (fun _ => rfl) (by first | rfl | assumption) (by exact Nat.le_of_ble_eq_true rfl) ?_
  refine run_hp (show _ = hX tx ca cb kt kd sd nw tr ac tu (fp, fs, fh, nI (nhC c), z2, z3, z4) mo dn ch s0 s1 ++ t from rfl) ?_
  refine Run.aload_n d_Gi_begin_8 rfl ?_
  refine Run.aload_n d_Gi_begin_9 rfl ?_
  refine Run.getf d_Gi_begin_10 fl_Gi_28 (by first | rfl | assumption) (by rfl) ?_
  refine Run.putf d_Gi_begin_13 fl_Gi_31 (fun _ => rfl) (fun _ => rfl) (by first | rfl | assumption) (by exact Nat.le_of_ble_eq_true rfl) ?_
  refine Run.aload_n d_Gi_begin_16 rfl ?_
  refine Run.iconst (v := -1) d_Gi_begin_17 ic_m1 ?_
  refine Run.putf d_Gi_begin_18 fl_Gi_32 (fun _ => rfl) (fun _ => rfl) (by first | rfl | assumption) (by exact Nat.le_of_ble_eq_true rfl) ?_
  refine Run.aload_n d_Gi_begin_21 rfl ?_
  refine Run.iconst (v := nI 0) d_Gi_begin_22 ic_0 ?_
  refine Run.putf d_Gi_begin_23 fl_Gi_35 (fun _ => rfl) (fun _ => rfl) (by first | rfl | assumption) (by exact Nat.le_of_ble_eq_true rfl) ?_
  refine Run.aload_n d_Gi_begin_26 rfl ?_
  refine Run.getf d_Gi_begin_27 fl_Gi_18 (by first | rfl | assumption) (by rfl) ?_
  refine Run.bipush (v := nI 6) d_Gi_begin_30 bp_6 ?_
  refine Run.iconst (v := nI 0) d_Gi_begin_32 ic_0 ?_
  refine Run.iast_n d_Gi_begin_33 (by first | rfl | assumption) (by omega) (by omega) ?_
  refine run_hp (show _ = hX tx ca cb kt kd sd nw tr ac tu (fp, fs, (upd fh 6 (nI 0)), nI (nhC c), nI (npC c), -1, nI 0) mo dn ch s0 s1 ++ t from rfl) ?_
  refine Run.iconst (v := nI 5) d_Gi_begin_34 ic_5 ?_
  refine Run.istore_n d_Gi_begin_35 rfl rfl ?_
  show Run _ _ _ _ _ _ [_, _, _, _] _ _ _
  have k0 := r_gibegin36 (X := X) (d := d) (tx := tx) (sd := sd) (tr := tr) (ac := ac) (tu := tu) (mo := mo) (dn := dn) (ch := ch) (s0 := s0) (s1 := s1) (t := t) hc hp ht hst 6 (Nat.le_refl _) fp fs _ hV
  rw [show nI 6 + -1 = nI 5 from by decide +kernel] at k0
  exact k0
def gvB (c : CA) (p : PG) : Option (Nat × Nat) := dfsN c p (npC c) 0 0 0 none
def givingR (c : CA) (p : PG) (u : Bool) : Int32 := if u = true then wayI (gvB c p) else mostI (gvB c p)
theorem q_PM_giving {u : Bool} (hc : coOK c) (hp : pgOK c p) (ht : TR c ca cb kt kd) (hst : StR c p nw) : Call X (d + 14) 0 0 M_PM_giving [.ref 1, .int (bI u)] (hX tx ca cb kt kd sd nw tr ac tu gi mo dn ch s0 s1 ++ t) (fun r h2 => r = some (.int (givingR c p u)) ∧ ∃ gi2, h2 = hX tx ca cb kt kd sd nw tr ac tu gi2 mo dn ch s0 s1 ++ t) := by
  show Run X (d + 14) 0 0 M_PM_giving 0 [some (.ref 1), some (.int (bI u))] [] _ _
  have b2 := hc.2.1
  have hR : givingR c p u = if u = true then wayI (gvB c p) else mostI (gvB c p) := rfl
  generalize givingR c p u = R0 at hR ⊢
  have hb : dfsN c p (npC c) 0 0 0 none = gvB c p := rfl
  refine Run.aload_n d_PM_giving_0 rfl ?_
  refine Run.getf d_PM_giving_1 fl_PM_57 (by first | rfl | assumption) (by rfl) ?_
  refine Run.aload_n d_PM_giving_4 rfl ?_
  refine Run.getf d_PM_giving_5 fl_PM_19 (by first | rfl | assumption) (by rfl) ?_
  refine Run.aload_n d_PM_giving_8 rfl ?_
  refine Run.getf d_PM_giving_9 fl_PM_29 (by first | rfl | assumption) (by rfl) ?_
  refine Run.V2 d_PM_giving_12 lk_PM_205 cm_Gi_begin iv_Gi_begin rfl (by first | rfl | assumption) (Nat.le_of_ble_eq_true rfl) (Nat.le_of_ble_eq_true rfl) (q_Gi_begin hc hp ht hst) (fun r12 h12 q12 => ?_)
  obtain ⟨rfl, fp2, fs2, fh2, hV, rfl⟩ := q12
  have k0 := q_PM_try (X := X) (d := d + 12 - npC c) (tx := tx) (ca := ca) (cb := cb) (kt := kt) (kd := kd) (sd := sd) (nw := nw) (tr := tr) (ac := ac) (tu := tu) (mo := mo) (dn := dn) (ch := ch) (s0 := s0) (s1 := s1) (t := t) (fp := fp2) (fs := fs2) (fh := fh2) hc (fun i hi => hV.1 i (Nat.zero_le _) hi) (fun i hi => hV.2.1 i (Nat.zero_le _) (by omega)) (fun i hi => hV.2.2 i (Nat.zero_le _) hi) (npC c) 0 0 0 none (by omega) (by decide) (fun q hq => by cases hq)
  rw [hb, show d + 12 - npC c + npC c + 1 = d + 13 by omega] at k0
  generalize gvB c p = bF at k0 hR
  refine Run.aload_n d_PM_giving_15 rfl ?_
  refine Run.getf d_PM_giving_16 fl_PM_57 (by first | rfl | assumption) (by rfl) ?_
  refine Run.iconst (v := nI 0) d_PM_giving_19 ic_0 ?_
  refine Run.iconst (v := nI 0) d_PM_giving_20 ic_0 ?_
  refine Run.iconst (v := nI 0) d_PM_giving_21 ic_0 ?_
  refine Run.S4v d_PM_giving_22 lk_PM_208 cm_PM_tryGivings st_PM_tryGivings (Nat.le_of_ble_eq_true rfl) (Nat.le_of_ble_eq_true rfl) (k0) ?_
  refine Run.iload_n d_PM_giving_25 rfl ?_
  first | refine Run.if_eq_b d_PM_giving_26 (fun c26 => ?_) (fun c26 => ?_) | refine Run.if_eq_n d_PM_giving_26 (by omega) (fun c26 => ?_) (fun c26 => ?_) | refine Run.if_eq d_PM_giving_26 (fun c26 => ?_) (fun c26 => ?_)
  · refine Run.aload_n d_PM_giving_39 rfl ?_
    refine Run.getf d_PM_giving_40 fl_PM_57 (by first | rfl | assumption) (by rfl) ?_
    refine Run.getf d_PM_giving_43 fl_PM_215 (by first | rfl | assumption) (by rfl) ?_
    refine Run.iret d_PM_giving_46 rfl rfl ?_
    first
    | (have q0 : u = true := c26; refine ⟨?_, _, rfl⟩; rw [hR, if_pos q0]; done)
    | (have q0 : u = false := c26; refine ⟨?_, _, rfl⟩; rw [hR, if_neg (by rw [q0]; decide)]; done)
  · refine Run.aload_n d_PM_giving_29 rfl ?_
    refine Run.getf d_PM_giving_30 fl_PM_57 (by first | rfl | assumption) (by rfl) ?_
    refine Run.getf d_PM_giving_33 fl_PM_212 (by first | rfl | assumption) (by rfl) ?_
    refine Run.goto d_PM_giving_36 ?_
    refine Run.iret d_PM_giving_46 rfl rfl ?_
    first
    | (have q0 : u = true := c26; refine ⟨?_, _, rfl⟩; rw [hR, if_pos q0]; done)
    | (have q0 : u = false := c26; refine ⟨?_, _, rfl⟩; rw [hR, if_neg (by rw [q0]; decide)]; done)
end GIVE2
