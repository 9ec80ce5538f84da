/-! ===== years by the seed ===== -/
theorem lush (x : Int64) : (x.toUInt64 >>> ((nI 33).toInt64.toUInt64 &&& Int64.toUInt64 63)).toInt64 = lN (x.toBitVec.toNat / 2 ^ 33) := by
  have e : ∀ s : UInt64, (s.toBitVec % 64).toNat = 33 → (x.toUInt64 >>> s).toInt64.toBitVec = x.toBitVec >>> 33 := fun s hs => by
    rw [← hs]
    exact UInt64.toBitVec_shiftRight _ _
  apply Int64.toBitVec_inj.mp
  apply BitVec.eq_of_toNat_eq
  rw [e _ (by decide +kernel), BitVec.toNat_ushiftRight, Nat.shiftRight_eq_div_pow]
  have h1 : x.toBitVec.toNat / 2 ^ 33 < 2 ^ 64 := Nat.lt_of_le_of_lt (Nat.div_le_self _ _) x.toBitVec.isLt
  exact (Nat.mod_eq_of_lt h1).symm
/-- which lot the seed draws -/
def lotN (x : Int64) : Nat := x.toBitVec.toNat / 2 ^ 33 % 18
theorem lotN_lt (x : Int64) : lotN x < 18 := Nat.mod_lt _ (by omega)
theorem lot_eq (x : Int64) : ((x.toUInt64 >>> ((nI 33).toInt64.toUInt64 &&& Int64.toUInt64 63)).toInt64 - (x.toUInt64 >>> ((nI 33).toInt64.toUInt64 &&& Int64.toUInt64 63)).toInt64 / 18 * 18).toInt32 = nI (lotN x) := by
  have h0 := x.toBitVec.isLt
  rw [lush, show (18 : Int64) = lN 18 from rfl, pk_lRem (by omega) (by omega) (by omega), lN_i]
  rfl
def sdN (x : Int64) : Int64 := x * 6364136223846793005 + 1442695040888963407
/-- a piece tilted -/
def tlP (p : PG) (i : Nat) (b : Bool) : PG := (fun k => if k = i then tiN (pgT p i) b else pgT p k, p.2.1, p.2.2.1, p.2.2.2)
def befN (c : CA) (p : PG) (lot : Nat) : PG := if 12 ≤ lot then hourN p 1 else if lot / 2 < npC c then tlP p (lot / 2) (decide (lot % 2 = 1)) else p
def yrF (c : CA) : Nat → Int64 × PG × Nat → Int64 × PG × Nat := fun _ q => (sdN q.1, befN c q.2.1 (lotN (sdN q.1)), q.2.2 + manyN (lookN c (befN c q.2.1 (lotN (sdN q.1)))))
def yearsR (c : CA) (p : PG) (sd : Int64) (m : Int32) : Int32 := if inC m 1 30 = true then nI (itN (yrF c) (sd, p, 0) (tn m)).2.2 else -2
def yearsS (c : CA) (p : PG) (sd : Int64) (m : Int32) : Int64 := if inC m 1 30 = true then (itN (yrF c) (sd, p, 0) (tn m)).1 else sd
theorem tiN_lt (a : Nat) (b : Bool) : tiN a b < 8 := Nat.mod_lt _ (by omega)
theorem tl_ok {c : CA} {p : PG} {i : Nat} {b : Bool} (hp : pgOK c p) : pgOK c (tlP p i b) := by
  refine ⟨hp.1, hp.2.1, fun k hk => ⟨?_, (hp.2.2 k hk).2⟩⟩
  show (if k = i then tiN (pgT p i) b else pgT p k) < 8
  split
  · exact tiN_lt _ _
  · exact (hp.2.2 k hk).1
theorem bef_ok {c : CA} {p : PG} {lot : Nat} (hp : pgOK c p) (hh : pgH p ≤ 900) : pgOK c (befN c p lot) ∧ pgH (befN c p lot) ≤ pgH p + 1 := by
  unfold befN
  split
  · exact ⟨⟨Nat.mod_lt _ (by omega), by show pgH p + 1 ≤ 1000; omega, hp.2.2⟩, Nat.le_refl _⟩
  · split
    · exact ⟨tl_ok hp, Nat.le_succ _⟩
    · exact ⟨hp, Nat.le_succ _⟩
theorem bc_many : ∀ v, v < 16 → bcN v = manyN v := by decide +kernel
theorem StR.hour {c : CA} {p : PG} {ft fw : FI} {li ho ke : Int32} (h : StR c p (ft, fw, li, ho, ke)) : StR c (hourN p 1) (ft, fw, nI ((pgL p + 1) % 8), nI (pgH p + 1), ke) := ⟨h.1, rfl, rfl⟩
theorem StR.tilt {c : CA} {p : PG} {ft fw : FI} {li ho ke : Int32} {i : Nat} {b : Bool} (h : StR c p (ft, fw, li, ho, ke)) : StR c (tlP p i b) (upd ft i (nI (tiN (pgT p i) b)), fw, li, ho, ke) := by
  refine ⟨fun k hk => ⟨?_, (h.1 k hk).2⟩, h.2⟩
  show upd ft i _ k = nI (if k = i then tiN (pgT p i) b else pgT p k)
  by_cases hki : k = i
  · subst hki; rw [pk_us, if_pos rfl]
  · rw [pk_un hki, if_neg hki]; exact (h.1 k hk).1
theorem StR.cp {c : CA} {p : PG} {s o : StS} (hn : npC c ≤ 6) (h : StR c p o) : StR c p (stCp s o) := by
  refine ⟨fun k hk => ?_, h.2⟩
  show va_cpy o.1 s.1 0 0 6 k = _ ∧ va_cpy o.2.1 s.2.1 0 0 6 k = _
  rw [pk_cpy_in (by omega) (by omega), pk_cpy_in (by omega) (by omega)]
  simp only [Nat.zero_add, Nat.sub_zero]
  exact h.1 k hk
theorem PgV.hour {c : CA} {p : PG} {f : FI} (hn : npC c ≤ 6) (h : PgV c p f) : PgV c (hourN p 1) (upd (upd f 12 (nI ((pgL p + 1) % 8))) 13 (nI (pgH p + 1))) := by
  refine ⟨fun i hi => ?_, ?_, ?_⟩
  · rw [pk_un (by omega), pk_un (by omega), pk_un (by omega), pk_un (by omega)]
    exact h.1 i hi
  · rw [pk_un (by omega), pk_us]
    rfl
  · rw [pk_us]
    rfl
theorem PgV.tilt {c : CA} {p : PG} {f : FI} {i : Nat} {b : Bool} (hn : npC c ≤ 6) (hi : i < npC c) (h : PgV c p f) : PgV c (tlP p i b) (upd f i (nI (tiN (pgT p i) b))) := by
  refine ⟨fun k hk => ⟨?_, ?_⟩, ?_, ?_⟩
  · show upd f i _ k = nI (if k = i then tiN (pgT p i) b else pgT p k)
    by_cases hki : k = i
    · subst hki; rw [pk_us, if_pos rfl]
    · rw [pk_un hki, if_neg hki]; exact (h.1 k hk).1
  · rw [pk_un (by omega)]; exact (h.1 k hk).2
  · rw [pk_un (by omega)]; exact h.2.1
  · rw [pk_un (by omega)]; exact h.2.2
section YEARS
variable {X : Nat × (Nat → Int32)} {d : Nat} {c : CA} {p : PG} {t : AH} {tx : TxS} {ca cb : CoS} {kt kd : Nat} {sd : Int64} {nw tr s0 s1 : StS} {ac : AcS} {tu : TuS} {gi : GiS} {mo : MoS} {dn ch : FI}
theorem q_PM_befall {lot : Nat} (hl : lot < 18) (hc : coOK c) (ht : TR c ca cb kt kd) (hst : StR c p tr) : Call X (d + 2) 0 0 M_PM_befall [.ref 1, .int (nI lot)] (hX tx ca cb kt kd sd nw tr ac tu gi mo dn ch s0 s1 ++ t) (fun r h2 => r = none ∧ ∃ tr2, StR c (befN c p lot) tr2 ∧ h2 = hX tx ca cb kt kd sd nw tr2 ac tu gi mo dn ch s0 s1 ++ t) := by
  show Run X (d + 2) 0 0 M_PM_befall 0 [some (.ref 1), some (.int (nI lot))] [] _ _
  obtain ⟨ft, fw, li, ho, ke⟩ := tr
  have hco := TR.at (tx := tx) (sd := sd) (nw := nw) (tr := (ft, fw, li, ho, ke)) (ac := ac) (tu := tu) (gi := gi) (mo := mo) (dn := dn) (ch := ch) (s0 := s0) (s1 := s1) (t := t) ht
  obtain ⟨fhk, fpt, fan, fkd, fhd, li2, g0, -⟩ := id hco
  have b2 := hc.2.1
  have e1 : li = nI (pgL p) := hst.2.1
  have e2 : ho = nI (pgH p) := hst.2.2
  subst e1
  subst e2
  refine Run.iload_n d_PM_befall_0 rfl ?_
  refine Run.bipush (v := nI 12) d_PM_befall_1 bp_12 ?_
  first | refine Run.icmp_lt_n d_PM_befall_3 (by omega) (by omega) (fun c3 => ?_) (fun c3 => ?_) | refine Run.icmp_lt d_PM_befall_3 (fun c3 => ?_) (fun c3 => ?_)
  · refine Run.aload_n d_PM_befall_17 rfl ?_
    refine Run.getf d_PM_befall_18 fl_PM_19 (by first | rfl | assumption) (by rfl) ?_
    refine Run.iload_n d_PM_befall_21 rfl ?_
    refine Run.iconst (v := nI 2) d_PM_befall_22 ic_2 ?_
    first | refine Run.idiv_n d_PM_befall_23 (by omega) (by omega) (by omega) ?_ | refine Run.idiv d_PM_befall_23 (by decide +kernel) ?_
    refine Run.V1r d_PM_befall_24 lk_PM_133 cm_Co_hasPiece iv_Co_hasPiece rfl (by first | rfl | assumption) (Nat.le_of_ble_eq_true rfl) (Nat.le_of_ble_eq_true rfl) (c_Co_hasPiece hco) ?_
    rw [inB_nI (by omega) (by omega)]
    first | refine Run.if_eq_b d_PM_befall_27 (fun c27 => ?_) (fun c27 => ?_) | refine Run.if_eq_n d_PM_befall_27 (by omega) (fun c27 => ?_) (fun c27 => ?_) | refine Run.if_eq d_PM_befall_27 (fun c27 => ?_) (fun c27 => ?_)
    · refine Run.vret d_PM_befall_52 rfl ?_
      first
      | exact ⟨rfl, _, by rw [befN, if_pos c3]; exact hst.hour, rfl⟩
      | exact ⟨rfl, _, by rw [befN, if_neg (by omega), if_neg (of_decide_eq_false c27)]; exact hst, rfl⟩
      | (refine ⟨rfl, (upd ft (lot / 2) (nI (tiN (pgT p (lot / 2)) (decide (lot % 2 = 1)))), fw, nI (pgL p), nI (pgH p), ke), by rw [befN, if_neg (by omega), if_pos c27]; exact hst.tilt, ?_⟩
         rw [hT, m8_m1, decide_eq_false c41]
         rfl)
      | (refine ⟨rfl, (upd ft (lot / 2) (nI (tiN (pgT p (lot / 2)) (decide (lot % 2 = 1)))), fw, nI (pgL p), nI (pgH p), ke), by rw [befN, if_neg (by omega), if_pos c27]; exact hst.tilt, ?_⟩
         rw [hT, m8_p1, decide_eq_true c41]
         rfl)
    · rw [decide_eq_true_eq] at c27
      have hT : ft (lot / 2) = nI (pgT p (lot / 2)) := (hst.1 _ c27).1
      refine Run.aload_n d_PM_befall_30 rfl ?_
      refine Run.getf d_PM_befall_31 fl_PM_33 (by first | rfl | assumption) (by rfl) ?_
      refine Run.iload_n d_PM_befall_34 rfl ?_
      refine Run.iconst (v := nI 2) d_PM_befall_35 ic_2 ?_
      first | refine Run.idiv_n d_PM_befall_36 (by omega) (by omega) (by omega) ?_ | refine Run.idiv d_PM_befall_36 (by decide +kernel) ?_
      refine Run.iload_n d_PM_befall_37 rfl ?_
      refine Run.iconst (v := nI 2) d_PM_befall_38 ic_2 ?_
      first | refine Run.irem_n d_PM_befall_39 (by omega) (by omega) (by omega) ?_ | refine Run.irem d_PM_befall_39 (by decide +kernel) ?_
      refine Run.iconst (v := nI 1) d_PM_befall_40 ic_1 ?_
      first | refine Run.icmp_ne_n d_PM_befall_41 (by omega) (by omega) (fun c41 => ?_) (fun c41 => ?_) | refine Run.icmp_ne d_PM_befall_41 (fun c41 => ?_) (fun c41 => ?_)
      · refine Run.iconst (v := -1) d_PM_befall_48 ic_m1 ?_
        refine Run.V2v d_PM_befall_49 lk_PM_166 cm_St_tiltBy iv_St_tiltBy rfl (by first | rfl | assumption) (Nat.le_of_ble_eq_true rfl) (Nat.le_of_ble_eq_true rfl) (c_St_tiltBy (k := 18) (ft := ft) rfl rfl (by omega)) ?_
        refine Run.vret d_PM_befall_52 rfl ?_
        first
        | exact ⟨rfl, _, by rw [befN, if_pos c3]; exact hst.hour, rfl⟩
        | exact ⟨rfl, _, by rw [befN, if_neg (by omega), if_neg (of_decide_eq_false c27)]; exact hst, rfl⟩
        | (refine ⟨rfl, (upd ft (lot / 2) (nI (tiN (pgT p (lot / 2)) (decide (lot % 2 = 1)))), fw, nI (pgL p), nI (pgH p), ke), by rw [befN, if_neg (by omega), if_pos c27]; exact hst.tilt, ?_⟩
           rw [hT, m8_m1, decide_eq_false c41]
           rfl)
        | (refine ⟨rfl, (upd ft (lot / 2) (nI (tiN (pgT p (lot / 2)) (decide (lot % 2 = 1)))), fw, nI (pgL p), nI (pgH p), ke), by rw [befN, if_neg (by omega), if_pos c27]; exact hst.tilt, ?_⟩
           rw [hT, m8_p1, decide_eq_true c41]
           rfl)
      · refine Run.iconst (v := nI 1) d_PM_befall_44 ic_1 ?_
        refine Run.goto d_PM_befall_45 ?_
        refine Run.V2v d_PM_befall_49 lk_PM_166 cm_St_tiltBy iv_St_tiltBy rfl (by first | rfl | assumption) (Nat.le_of_ble_eq_true rfl) (Nat.le_of_ble_eq_true rfl) (c_St_tiltBy (k := 18) (ft := ft) rfl rfl (by omega)) ?_
        refine Run.vret d_PM_befall_52 rfl ?_
        first
        | exact ⟨rfl, _, by rw [befN, if_pos c3]; exact hst.hour, rfl⟩
        | exact ⟨rfl, _, by rw [befN, if_neg (by omega), if_neg (of_decide_eq_false c27)]; exact hst, rfl⟩
        | (refine ⟨rfl, (upd ft (lot / 2) (nI (tiN (pgT p (lot / 2)) (decide (lot % 2 = 1)))), fw, nI (pgL p), nI (pgH p), ke), by rw [befN, if_neg (by omega), if_pos c27]; exact hst.tilt, ?_⟩
           rw [hT, m8_m1, decide_eq_false c41]
           rfl)
        | (refine ⟨rfl, (upd ft (lot / 2) (nI (tiN (pgT p (lot / 2)) (decide (lot % 2 = 1)))), fw, nI (pgL p), nI (pgH p), ke), by rw [befN, if_neg (by omega), if_pos c27]; exact hst.tilt, ?_⟩
           rw [hT, m8_p1, decide_eq_true c41]
           rfl)
  · refine Run.aload_n d_PM_befall_6 rfl ?_
    refine Run.getf d_PM_befall_7 fl_PM_33 (by first | rfl | assumption) (by rfl) ?_
    refine Run.iconst (v := nI 1) d_PM_befall_10 ic_1 ?_
    refine Run.V1v d_PM_befall_11 lk_PM_173 cm_St_passHours iv_St_passHours rfl (by first | rfl | assumption) (Nat.le_of_ble_eq_true rfl) (Nat.le_of_ble_eq_true rfl) (c_St_passHours (k := 18) (li := nI (pgL p)) (ho := nI (pgH p)) rfl) ?_
    rw [m8_p1, nI_add]
    refine Run.goto d_PM_befall_14 ?_
    refine Run.vret d_PM_befall_52 rfl ?_
    first
    | exact ⟨rfl, _, by rw [befN, if_pos c3]; exact hst.hour, rfl⟩
    | exact ⟨rfl, _, by rw [befN, if_neg (by omega), if_neg (of_decide_eq_false c27)]; exact hst, rfl⟩
    | (refine ⟨rfl, (upd ft (lot / 2) (nI (tiN (pgT p (lot / 2)) (decide (lot % 2 = 1)))), fw, nI (pgL p), nI (pgH p), ke), by rw [befN, if_neg (by omega), if_pos c27]; exact hst.tilt, ?_⟩
       rw [hT, m8_m1, decide_eq_false c41]
       rfl)
    | (refine ⟨rfl, (upd ft (lot / 2) (nI (tiN (pgT p (lot / 2)) (decide (lot % 2 = 1)))), fw, nI (pgL p), nI (pgH p), ke), by rw [befN, if_neg (by omega), if_pos c27]; exact hst.tilt, ?_⟩
       rw [hT, m8_p1, decide_eq_true c41]
       rfl)
theorem r_years29 {M : Nat} (hM30 : M ≤ 30) (hc : coOK c) (hp : pgOK c p) (hh : pgH p ≤ 800) (ht : TR c ca cb kt kd) (hst : StR c p tr) : Run X (d + 7) 0 0 M_PM_years 29 [some (.ref 1), some (.int (nI M)), some (.int (nI 0)), some (.int (nI 0))] [] (hX tx ca cb kt kd sd nw tr ac tu gi mo dn ch s0 s1 ++ t) (fun r h2 => r = some (.int (nI (itN (yrF c) (sd, p, 0) M).2.2)) ∧ ∃ tr2, h2 = hX tx ca cb kt kd (itN (yrF c) (sd, p, 0) M).1 nw tr2 ac tu gi mo dn ch s0 s1 ++ t) := by
  refine upto M (fun i => ∀ (x : Int64) (p2 : PG) (sm : Nat) (tr2 : StS), itN (yrF c) (sd, p, 0) i = (x, p2, sm) → StR c p2 tr2 → pgOK c p2 → pgH p2 ≤ pgH p + i → Run X (d + 7) 0 0 M_PM_years 29 [some (.ref 1), some (.int (nI M)), some (.int (nI sm)), some (.int (nI i))] [] (hX tx ca cb kt kd x nw tr2 ac tu gi mo dn ch s0 s1 ++ t) (fun r h2 => r = some (.int (nI (itN (yrF c) (sd, p, 0) M).2.2)) ∧ ∃ tr2, h2 = hX tx ca cb kt kd (itN (yrF c) (sd, p, 0) M).1 nw tr2 ac tu gi mo dn ch s0 s1 ++ t)) ?_ 0 (Nat.zero_le _) sd p 0 tr rfl hst hp (Nat.le_refl _)
  intro i hi ih x p2 sm tr2 hq hs2 hp2 hh2
  have hbo := bef_ok (lot := lotN (sdN x)) hp2 (by omega)
  have hst2 : itN (yrF c) (sd, p, 0) (i + 1) = (sdN x, befN c p2 (lotN (sdN x)), sm + manyN (lookN c (befN c p2 (lotN (sdN x))))) := by
    show yrF c i (itN (yrF c) (sd, p, 0) i) = _
    rw [hq]
    rfl
  have w1 := lookN_lt hc (befN c p2 (lotN (sdN x)))
  have w2 := lotN_lt (sdN x)
  refine Run.iload_n d_PM_years_29 rfl ?_
  refine Run.iload_n d_PM_years_30 rfl ?_
  first | refine Run.icmp_ge_n d_PM_years_31 (by omega) (by omega) (fun c31 => ?_) (fun c31 => ?_) | refine Run.icmp_ge d_PM_years_31 (fun c31 => ?_) (fun c31 => ?_)
  · refine Run.iload_n d_PM_years_86 rfl ?_
    refine Run.iret d_PM_years_87 rfl rfl ?_
    have e8 : i = M := by omega
    subst e8
    rw [hq]
    exact ⟨rfl, tr2, rfl⟩
  · refine Run.aload_n d_PM_years_34 rfl ?_
    refine Run.aload_n d_PM_years_35 rfl ?_
    refine Run.getf d_PM_years_36 fl_PM_255 (by first | rfl | assumption) (by rfl) ?_
    refine Run.ldc2 d_PM_years_39 kn_PM_259 ?_
    refine Run.lmul d_PM_years_42 ?_
    refine Run.ldc2 d_PM_years_43 kn_PM_261 ?_
    refine Run.ladd d_PM_years_46 ?_
    refine Run.putf d_PM_years_47 fl_PM_255 (fun _ => rfl) (fun _ => rfl) (by first | rfl | assumption) (by exact Nat.le_of_ble_eq_true rfl) ?_
    refine run_hp (show _ = hX tx ca cb kt kd (sdN x) nw tr2 ac tu gi mo dn ch s0 s1 ++ t from rfl) ?_
    refine Run.aload_n d_PM_years_50 rfl ?_
    refine Run.aload_n d_PM_years_51 rfl ?_
    refine Run.getf d_PM_years_52 fl_PM_255 (by first | rfl | assumption) (by rfl) ?_
    refine Run.bipush (v := nI 33) d_PM_years_55 bp_33 ?_
    refine Run.lushr d_PM_years_57 ?_
    refine Run.ldc2 d_PM_years_58 kn_PM_263 ?_
    refine Run.lrem d_PM_years_61 (by decide +kernel) ?_
    refine Run.l2i d_PM_years_62 ?_
    rw [lot_eq]
    refine Run.V1 d_PM_years_63 lk_PM_265 cm_PM_befall iv_PM_befall rfl (by first | rfl | assumption) (Nat.le_of_ble_eq_true rfl) (Nat.le_of_ble_eq_true rfl) (q_PM_befall w2 hc ht hs2) (fun r63 h63 q63 => ?_)
    obtain ⟨rfl, tr3, hs3, rfl⟩ := q63
    generalize befN c p2 (lotN (sdN x)) = p3 at hbo hst2 w1 hs3
    refine Run.iload_n d_PM_years_66 rfl ?_
    refine Run.aload_n d_PM_years_67 rfl ?_
    refine Run.aload_n d_PM_years_68 rfl ?_
    refine Run.getf d_PM_years_69 fl_PM_33 (by first | rfl | assumption) (by rfl) ?_
    refine Run.V1r d_PM_years_72 lk_PM_110 cm_PM_whoSeesHerLook iv_PM_whoSeesHerLook rfl (by first | rfl | assumption) (Nat.le_of_ble_eq_true rfl) (Nat.le_of_ble_eq_true rfl) (c_PM_whoSeesHerLook hc hbo.1 ht.tl hs3.tri) ?_
    refine Run.S1r d_PM_years_75 lk_PM_268 cm_In_bitCount st_In_bitCount (Nat.le_of_ble_eq_true rfl) (Nat.le_of_ble_eq_true rfl) (c_In_bitCount (by omega)) ?_
    rw [bc_many _ w1]
    first | refine Run.iadd_n d_PM_years_78 ?_ | refine Run.iadd d_PM_years_78 ?_
    refine Run.istore_n d_PM_years_79 rfl rfl ?_
    show Run _ _ _ _ _ _ [_, _, _, _] _ _ _
    first | refine Run.iinc_n d_PM_years_80 ic_1 rfl rfl ?_ | refine Run.iinc d_PM_years_80 rfl rfl rfl ?_
    show Run _ _ _ _ _ _ [_, _, _, _] _ _ _
    refine Run.goto d_PM_years_83 ?_
    exact ih c31 _ _ _ tr3 hst2 hs3 hbo.1 (by omega)
theorem q_PM_years {m : Int32} (hc : coOK c) (hp : pgOK c p) (hh : pgH p ≤ 800) (ht : TR c ca cb kt kd) (hst : StR c p nw) : Call X (d + 7) 0 0 M_PM_years [.ref 1, .int m] (hX tx ca cb kt kd sd nw tr ac tu gi mo dn ch s0 s1 ++ t) (fun r h2 => r = some (.int (yearsR c p sd m)) ∧ ∃ tr2, h2 = hX tx ca cb kt kd (yearsS c p sd m) nw tr2 ac tu gi mo dn ch s0 s1 ++ t) := by
  show Run X (d + 7) 0 0 M_PM_years 0 [some (.ref 1), some (.int m), none, none] [] _ _
  refine Run.iload_n d_PM_years_0 rfl ?_
  refine Run.iconst (v := nI 1) d_PM_years_1 ic_1 ?_
  first | refine Run.icmp_lt_n d_PM_years_2 (by omega) (by omega) (fun c2 => ?_) (fun c2 => ?_) | refine Run.icmp_lt d_PM_years_2 (fun c2 => ?_) (fun c2 => ?_)
  · refine Run.bipush (v := -2) d_PM_years_11 bp_m2 ?_
    refine Run.iret d_PM_years_13 rfl rfl ?_
    first
    | (refine ⟨by rw [yearsR, inC_lo c2]; rfl, tr, ?_⟩; rw [yearsS, inC_lo c2]; rfl)
    | (refine ⟨by rw [yearsR, inC_hi (Int32.not_le.mp c8)]; rfl, tr, ?_⟩; rw [yearsS, inC_hi (Int32.not_le.mp c8)]; rfl)
  · refine Run.iload_n d_PM_years_5 rfl ?_
    refine Run.bipush (v := nI 30) d_PM_years_6 bp_30 ?_
    first | refine Run.icmp_le_n d_PM_years_8 (by omega) (by omega) (fun c8 => ?_) (fun c8 => ?_) | refine Run.icmp_le d_PM_years_8 (fun c8 => ?_) (fun c8 => ?_)
    · have hN := inC_in (a := 1) (b := 30) c2 (Int32.not_lt.mpr c8)
      rw [show yearsR c p sd m = nI (itN (yrF c) (sd, p, 0) (tn m)).2.2 by rw [yearsR, if_pos hN], show yearsS c p sd m = (itN (yrF c) (sd, p, 0) (tn m)).1 by rw [yearsS, if_pos hN]]
      obtain ⟨M, hM1, hM2, rfl⟩ := inC_t (by omega) (by omega) hN
      rw [tn_nI (by omega)]
      refine Run.aload_n d_PM_years_14 rfl ?_
      refine Run.getf d_PM_years_15 fl_PM_33 (by first | rfl | assumption) (by rfl) ?_
      refine Run.aload_n d_PM_years_18 rfl ?_
      refine Run.getf d_PM_years_19 fl_PM_29 (by first | rfl | assumption) (by rfl) ?_
      refine Run.V1v d_PM_years_22 lk_PM_220 cm_St_copyFrom iv_St_copyFrom rfl (by first | rfl | assumption) (Nat.le_of_ble_eq_true rfl) (Nat.le_of_ble_eq_true rfl) (c_St_copyFrom (k := 18) (k2 := 15) (v1 := .null) (v2 := .null) rfl rfl rfl rfl rfl rfl (by omega)) ?_
      refine run_hp (show _ = hX tx ca cb kt kd sd nw (stCp tr nw) ac tu gi mo dn ch s0 s1 ++ t from rfl) ?_
      refine Run.iconst (v := nI 0) d_PM_years_25 ic_0 ?_
      refine Run.istore_n d_PM_years_26 rfl rfl ?_
      show Run _ _ _ _ _ _ [_, _, _, _] _ _ _
      refine Run.iconst (v := nI 0) d_PM_years_27 ic_0 ?_
      refine Run.istore_n d_PM_years_28 rfl rfl ?_
      show Run _ _ _ _ _ _ [_, _, _, _] _ _ _
      exact r_years29 hM2 hc hp hh ht (hst.cp hc.2.1)
    · refine Run.bipush (v := -2) d_PM_years_11 bp_m2 ?_
      refine Run.iret d_PM_years_13 rfl rfl ?_
      first
      | (refine ⟨by rw [yearsR, inC_lo c2]; rfl, tr, ?_⟩; rw [yearsS, inC_lo c2]; rfl)
      | (refine ⟨by rw [yearsR, inC_hi (Int32.not_le.mp c8)]; rfl, tr, ?_⟩; rw [yearsS, inC_hi (Int32.not_le.mp c8)]; rfl)
end YEARS
section RYEARS
variable {X : Nat × (Nat → Int32)} {d : Nat} {c : CA} {p : PG} {f0 : Nat → AC} {tx ho pi rh rp pg tr bk kp ik ta tp ga gr va rw : FI} {z1 z2 z3 z4 z5 z6 z7 z8 z9 y1 y2 y3 y4 : Int32} {sd : Int64}
theorem r_ryears28 {M : Nat} (hM30 : M ≤ 30) (hc : coOK c) (hp : pgOK c p) (hh : pgH p ≤ 800) (hr : RfR c z3 z4 ho pi) (hg : PgV c p tr) : Run X (d + 6) 0 0 M_Rf_years 28 [some (.ref 44), some (.int (nI M)), some (.int (nI 0)), some (.int (nI 0)), none] [] (PX f0 ++ hM (z1, z2, z3, z4, z5, z6, z7, z8, z9, sd, y1, y2, y3, y4) tx ho pi rh rp pg tr bk kp ik ta tp ga gr va rw) (fun r h2 => r = some (.int (nI (itN (yrF c) (sd, p, 0) M).2.2)) ∧ ∃ tr2, h2 = PX f0 ++ hM (z1, z2, z3, z4, z5, z6, z7, z8, z9, (itN (yrF c) (sd, p, 0) M).1, y1, y2, y3, y4) tx ho pi rh rp pg tr2 bk kp ik ta tp ga gr va rw) := by
  refine upto M (fun i => ∀ (x : Int64) (p2 : PG) (sm : Nat) (tr2 : FI) (v4 : Option Value), itN (yrF c) (sd, p, 0) i = (x, p2, sm) → PgV c p2 tr2 → pgOK c p2 → pgH p2 ≤ pgH p + i → Run X (d + 6) 0 0 M_Rf_years 28 [some (.ref 44), some (.int (nI M)), some (.int (nI sm)), some (.int (nI i)), v4] [] (PX f0 ++ hM (z1, z2, z3, z4, z5, z6, z7, z8, z9, x, y1, y2, y3, y4) tx ho pi rh rp pg tr2 bk kp ik ta tp ga gr va rw) (fun r h2 => r = some (.int (nI (itN (yrF c) (sd, p, 0) M).2.2)) ∧ ∃ tr2, h2 = PX f0 ++ hM (z1, z2, z3, z4, z5, z6, z7, z8, z9, (itN (yrF c) (sd, p, 0) M).1, y1, y2, y3, y4) tx ho pi rh rp pg tr2 bk kp ik ta tp ga gr va rw)) ?_ 0 (Nat.zero_le _) sd p 0 tr none rfl hg hp (Nat.le_refl _)
  intro i hi ih x p2 sm tr2 v4 hq hg2 hp2 hh2
  have b2 := hc.2.1
  have hbo := bef_ok (lot := lotN (sdN x)) hp2 (by omega)
  have hst2 : itN (yrF c) (sd, p, 0) (i + 1) = (sdN x, befN c p2 (lotN (sdN x)), sm + manyN (lookN c (befN c p2 (lotN (sdN x))))) := by
    show yrF c i (itN (yrF c) (sd, p, 0) i) = _
    rw [hq]
    rfl
  have w1 := lookN_lt hc (befN c p2 (lotN (sdN x)))
  have w2 := lotN_lt (sdN x)
  have hbd : befN c p2 (lotN (sdN x)) = if 12 ≤ lotN (sdN x) then hourN p2 1 else if lotN (sdN x) / 2 < npC c then tlP p2 (lotN (sdN x) / 2) (decide (lotN (sdN x) % 2 = 1)) else p2 := rfl
  generalize befN c p2 (lotN (sdN x)) = p3 at hbo hst2 w1 hbd
  generalize hlot : lotN (sdN x) = lot at w2 hbd
  have h115 : i < M → ∀ t3 v4, PgV c p3 t3 → Run X (d + 6) 0 0 M_Rf_years 115 [some (.ref 44), some (.int (nI M)), some (.int (nI sm)), some (.int (nI i)), v4] [] (PX f0 ++ hM (z1, z2, z3, z4, z5, z6, z7, z8, z9, (sdN x), y1, y2, y3, y4) tx ho pi rh rp pg t3 bk kp ik ta tp ga gr va rw) (fun r h2 => r = some (.int (nI (itN (yrF c) (sd, p, 0) M).2.2)) ∧ ∃ tr2, h2 = PX f0 ++ hM (z1, z2, z3, z4, z5, z6, z7, z8, z9, (itN (yrF c) (sd, p, 0) M).1, y1, y2, y3, y4) tx ho pi rh rp pg tr2 bk kp ik ta tp ga gr va rw) := by
    intro hlt t3 v4 hg3
    refine Run.iload_n d_Rf_years_115 rfl ?_
    refine Run.aload_n d_Rf_years_116 rfl ?_
    refine Run.aload_n d_Rf_years_117 rfl ?_
    refine Run.getf d_Rf_years_118 fl_Rf_28 (by first | rfl | assumption) (by rfl) ?_
    refine Run.V1r d_Rf_years_121 lk_Rf_139 cm_Rf_lookers iv_Rf_lookers rfl (by first | rfl | assumption) (Nat.le_of_ble_eq_true rfl) (Nat.le_of_ble_eq_true rfl) (c_Rf_lookers hc hbo.1 (RfR.at (nu := (z1, z2, z3, z4, z5, z6, z7, z8, z9, (sdN x), y1, y2, y3, y4)) hr) hg3.a50) ?_
    refine Run.S1r d_Rf_years_124 lk_Rf_195 cm_Rf_many st_Rf_many (Nat.le_of_ble_eq_true rfl) (Nat.le_of_ble_eq_true rfl) (c_Rf_many (by omega)) ?_
    first | refine Run.iadd_n d_Rf_years_127 ?_ | refine Run.iadd d_Rf_years_127 ?_
    refine Run.istore_n d_Rf_years_128 rfl rfl ?_
    show Run _ _ _ _ _ _ [_, _, _, _, _] _ _ _
    first | refine Run.iinc_n d_Rf_years_129 ic_1 rfl rfl ?_ | refine Run.iinc d_Rf_years_129 rfl rfl rfl ?_
    show Run _ _ _ _ _ _ [_, _, _, _, _] _ _ _
    refine Run.goto d_Rf_years_132 ?_
    exact ih hlt _ _ _ t3 _ hst2 hg3 hbo.1 (by omega)
  have hl12 : tr2 12 = nI (pgL p2) := hg2.2.1
  have hl13 : tr2 13 = nI (pgH p2) := hg2.2.2
  refine Run.iload_n d_Rf_years_28 rfl ?_
  refine Run.iload_n d_Rf_years_29 rfl ?_
  first | refine Run.icmp_ge_n d_Rf_years_30 (by omega) (by omega) (fun c30 => ?_) (fun c30 => ?_) | refine Run.icmp_ge d_Rf_years_30 (fun c30 => ?_) (fun c30 => ?_)
  · refine Run.iload_n d_Rf_years_135 rfl ?_
    refine Run.iret d_Rf_years_136 rfl rfl ?_
    have e8 : i = M := by omega
    subst e8
    rw [hq]
    exact ⟨rfl, tr2, rfl⟩
  · rw [hM_x]
    refine Run.aload_n d_Rf_years_33 rfl ?_
    refine Run.aload_n d_Rf_years_34 rfl ?_
    refine Run.getf d_Rf_years_35 fl_Rf_244 (by first | rfl | assumption) (by rfl) ?_
    refine Run.ldc2 d_Rf_years_38 kn_Rf_250 ?_
    refine Run.lmul d_Rf_years_41 ?_
    refine Run.ldc2 d_Rf_years_42 kn_Rf_252 ?_
    refine Run.ladd d_Rf_years_45 ?_
    refine Run.putf d_Rf_years_46 fl_Rf_244 (fun _ => rfl) (fun _ => rfl) (by first | rfl | assumption) (by exact Nat.le_of_ble_eq_true rfl) ?_
    refine run_hp (show _ = PX f0 ++ hMx z1 z2 z3 z4 z5 z6 z7 z8 z9 (sdN x) y1 y2 y3 y4 tx ho pi rh rp pg tr2 bk kp ik ta tp ga gr va rw from rfl) ?_
    rw [← hM_x]
    refine Run.aload_n d_Rf_years_49 rfl ?_
    refine Run.getf d_Rf_years_50 fl_Rf_244 (by first | rfl | assumption) (by rfl) ?_
    refine Run.bipush (v := nI 33) d_Rf_years_53 bp_33 ?_
    refine Run.lushr d_Rf_years_55 ?_
    refine Run.ldc2 d_Rf_years_56 kn_Rf_254 ?_
    refine Run.lrem d_Rf_years_59 (by decide +kernel) ?_
    refine Run.l2i d_Rf_years_60 ?_
    rw [lot_eq, hlot]
    refine Run.istore d_Rf_years_61 rfl rfl ?_
    show Run _ _ _ _ _ _ [_, _, _, _, _] _ _ _
    refine Run.iload d_Rf_years_63 rfl ?_
    refine Run.bipush (v := nI 12) d_Rf_years_65 bp_12 ?_
    first | refine Run.icmp_lt_n d_Rf_years_67 (by omega) (by omega) (fun c67 => ?_) (fun c67 => ?_) | refine Run.icmp_lt d_Rf_years_67 (fun c67 => ?_) (fun c67 => ?_)
    · refine Run.aload_n d_Rf_years_80 rfl ?_
      refine Run.iload d_Rf_years_81 rfl ?_
      refine Run.iconst (v := nI 2) d_Rf_years_83 ic_2 ?_
      first | refine Run.idiv_n d_Rf_years_84 (by omega) (by omega) (by omega) ?_ | refine Run.idiv d_Rf_years_84 (by decide +kernel) ?_
      refine Run.V1r d_Rf_years_85 lk_Rf_156 cm_Rf_noPiece iv_Rf_noPiece rfl (by first | rfl | assumption) (Nat.le_of_ble_eq_true rfl) (Nat.le_of_ble_eq_true rfl) (c_Rf_noPiece hc (RfR.at (nu := (z1, z2, z3, z4, z5, z6, z7, z8, z9, (sdN x), y1, y2, y3, y4)) hr)) ?_
      rw [inB_nI (by omega) (by omega)]
      first | refine Run.if_ne_b d_Rf_years_88 (fun c88 => ?_) (fun c88 => ?_) | refine Run.if_ne_n d_Rf_years_88 (by omega) (fun c88 => ?_) (fun c88 => ?_) | refine Run.if_ne d_Rf_years_88 (fun c88 => ?_) (fun c88 => ?_)
      · rw [Bool.not_eq_true', decide_eq_false_iff_not] at c88
        first
        | (have q0 : 12 ≤ lot := c67; refine h115 c30 (upd (upd tr2 12 (nI ((pgL p2 + 1) % 8))) 13 (nI (pgH p2 + 1))) _ ?_; rw [hbd, if_pos c67]; exact hg2.hour b2)
        | (have q0 : ¬ lot / 2 < npC c := c88; refine h115 c30 tr2 _ ?_; rw [hbd, if_neg (by omega), if_neg c88]; exact hg2)
        | (have q0 : lot % 2 = 1 := c104; refine h115 c30 (upd tr2 (lot / 2) (nI (tiN (pgT p2 (lot / 2)) true))) _ ?_; rw [hbd, if_neg (by omega), if_pos c88, decide_eq_true c104]; exact hg2.tilt b2 c88)
        | (have q0 : ¬ lot % 2 = 1 := c104; refine h115 c30 (upd tr2 (lot / 2) (nI (tiN (pgT p2 (lot / 2)) false))) _ ?_; rw [hbd, if_neg (by omega), if_pos c88, decide_eq_false c104]; exact hg2.tilt b2 c88)
      · rw [Bool.not_eq_false', decide_eq_true_eq] at c88
        have hT : tr2 (lot / 2) = nI (pgT p2 (lot / 2)) := (hg2.1 _ c88).1
        have hT8 := (hp2.2.2 _ c88).1
        refine Run.aload_n d_Rf_years_91 rfl ?_
        refine Run.getf d_Rf_years_92 fl_Rf_28 (by first | rfl | assumption) (by rfl) ?_
        refine Run.iload d_Rf_years_95 rfl ?_
        refine Run.iconst (v := nI 2) d_Rf_years_97 ic_2 ?_
        first | refine Run.idiv_n d_Rf_years_98 (by omega) (by omega) (by omega) ?_ | refine Run.idiv d_Rf_years_98 (by decide +kernel) ?_
        refine Run.iload d_Rf_years_99 rfl ?_
        refine Run.iconst (v := nI 2) d_Rf_years_101 ic_2 ?_
        first | refine Run.irem_n d_Rf_years_102 (by omega) (by omega) (by omega) ?_ | refine Run.irem d_Rf_years_102 (by decide +kernel) ?_
        refine Run.iconst (v := nI 1) d_Rf_years_103 ic_1 ?_
        first | refine Run.icmp_ne_n d_Rf_years_104 (by omega) (by omega) (fun c104 => ?_) (fun c104 => ?_) | refine Run.icmp_ne d_Rf_years_104 (fun c104 => ?_) (fun c104 => ?_)
        · refine Run.iconst (v := nI 0) d_Rf_years_111 ic_0 ?_
          first | refine Run.S3v d_Rf_years_112 lk_Rf_164 cm_Rf_goTilt st_Rf_goTilt (Nat.le_of_ble_eq_true rfl) (Nat.le_of_ble_eq_true rfl) (q_Rf_goTilt (k := 50) (b := true) rfl (by omega) hT hT8) ?_ | refine Run.S3v d_Rf_years_112 lk_Rf_164 cm_Rf_goTilt st_Rf_goTilt (Nat.le_of_ble_eq_true rfl) (Nat.le_of_ble_eq_true rfl) (q_Rf_goTilt (k := 50) (b := false) rfl (by omega) hT hT8) ?_
          first
          | (have q0 : 12 ≤ lot := c67; refine h115 c30 (upd (upd tr2 12 (nI ((pgL p2 + 1) % 8))) 13 (nI (pgH p2 + 1))) _ ?_; rw [hbd, if_pos c67]; exact hg2.hour b2)
          | (have q0 : ¬ lot / 2 < npC c := c88; refine h115 c30 tr2 _ ?_; rw [hbd, if_neg (by omega), if_neg c88]; exact hg2)
          | (have q0 : lot % 2 = 1 := c104; refine h115 c30 (upd tr2 (lot / 2) (nI (tiN (pgT p2 (lot / 2)) true))) _ ?_; rw [hbd, if_neg (by omega), if_pos c88, decide_eq_true c104]; exact hg2.tilt b2 c88)
          | (have q0 : ¬ lot % 2 = 1 := c104; refine h115 c30 (upd tr2 (lot / 2) (nI (tiN (pgT p2 (lot / 2)) false))) _ ?_; rw [hbd, if_neg (by omega), if_pos c88, decide_eq_false c104]; exact hg2.tilt b2 c88)
        · refine Run.iconst (v := nI 1) d_Rf_years_107 ic_1 ?_
          refine Run.goto d_Rf_years_108 ?_
          first | refine Run.S3v d_Rf_years_112 lk_Rf_164 cm_Rf_goTilt st_Rf_goTilt (Nat.le_of_ble_eq_true rfl) (Nat.le_of_ble_eq_true rfl) (q_Rf_goTilt (k := 50) (b := true) rfl (by omega) hT hT8) ?_ | refine Run.S3v d_Rf_years_112 lk_Rf_164 cm_Rf_goTilt st_Rf_goTilt (Nat.le_of_ble_eq_true rfl) (Nat.le_of_ble_eq_true rfl) (q_Rf_goTilt (k := 50) (b := false) rfl (by omega) hT hT8) ?_
          first
          | (have q0 : 12 ≤ lot := c67; refine h115 c30 (upd (upd tr2 12 (nI ((pgL p2 + 1) % 8))) 13 (nI (pgH p2 + 1))) _ ?_; rw [hbd, if_pos c67]; exact hg2.hour b2)
          | (have q0 : ¬ lot / 2 < npC c := c88; refine h115 c30 tr2 _ ?_; rw [hbd, if_neg (by omega), if_neg c88]; exact hg2)
          | (have q0 : lot % 2 = 1 := c104; refine h115 c30 (upd tr2 (lot / 2) (nI (tiN (pgT p2 (lot / 2)) true))) _ ?_; rw [hbd, if_neg (by omega), if_pos c88, decide_eq_true c104]; exact hg2.tilt b2 c88)
          | (have q0 : ¬ lot % 2 = 1 := c104; refine h115 c30 (upd tr2 (lot / 2) (nI (tiN (pgT p2 (lot / 2)) false))) _ ?_; rw [hbd, if_neg (by omega), if_pos c88, decide_eq_false c104]; exact hg2.tilt b2 c88)
    · refine Run.aload_n d_Rf_years_70 rfl ?_
      refine Run.getf d_Rf_years_71 fl_Rf_28 (by first | rfl | assumption) (by rfl) ?_
      refine Run.S1v d_Rf_years_74 lk_Rf_168 cm_Rf_goHour st_Rf_goHour (Nat.le_of_ble_eq_true rfl) (Nat.le_of_ble_eq_true rfl) (q_Rf_goHour (k := 50) rfl hl12 hl13 hp2.1) ?_
      refine Run.goto d_Rf_years_77 ?_
      first
      | (have q0 : 12 ≤ lot := c67; refine h115 c30 (upd (upd tr2 12 (nI ((pgL p2 + 1) % 8))) 13 (nI (pgH p2 + 1))) _ ?_; rw [hbd, if_pos c67]; exact hg2.hour b2)
      | (have q0 : ¬ lot / 2 < npC c := c88; refine h115 c30 tr2 _ ?_; rw [hbd, if_neg (by omega), if_neg c88]; exact hg2)
      | (have q0 : lot % 2 = 1 := c104; refine h115 c30 (upd tr2 (lot / 2) (nI (tiN (pgT p2 (lot / 2)) true))) _ ?_; rw [hbd, if_neg (by omega), if_pos c88, decide_eq_true c104]; exact hg2.tilt b2 c88)
      | (have q0 : ¬ lot % 2 = 1 := c104; refine h115 c30 (upd tr2 (lot / 2) (nI (tiN (pgT p2 (lot / 2)) false))) _ ?_; rw [hbd, if_neg (by omega), if_pos c88, decide_eq_false c104]; exact hg2.tilt b2 c88)
theorem PgV.cp {c : CA} {p : PG} {f g : FI} (hn : npC c ≤ 6) (h : PgV c p f) (e : ∀ j, j < 14 → g j = f j) : PgV c p g := ⟨fun i hi => by rw [e i (by omega), e (6 + i) (by omega)]; exact h.1 i hi, by rw [e 12 (by omega)]; exact h.2.1, by rw [e 13 (by omega)]; exact h.2.2⟩
theorem q_Rf_years {m : Int32} (hc : coOK c) (hp : pgOK c p) (hh : pgH p ≤ 800) (hr : RfR c z3 z4 ho pi) (hg : PgV c p pg) : Call X (d + 6) 0 0 M_Rf_years [.ref 44, .int m] (PX f0 ++ hM (z1, z2, z3, z4, z5, z6, z7, z8, z9, sd, y1, y2, y3, y4) tx ho pi rh rp pg tr bk kp ik ta tp ga gr va rw) (fun r h2 => r = some (.int (yearsR c p sd m)) ∧ ∃ tr2, h2 = PX f0 ++ hM (z1, z2, z3, z4, z5, z6, z7, z8, z9, (yearsS c p sd m), y1, y2, y3, y4) tx ho pi rh rp pg tr2 bk kp ik ta tp ga gr va rw) := by
  show Run X (d + 6) 0 0 M_Rf_years 0 [some (.ref 44), some (.int m), none, none, none] [] _ _
  refine Run.aload_n d_Rf_years_0 rfl ?_
  refine Run.iconst (v := nI 0) d_Rf_years_1 ic_0 ?_
  refine Run.putf d_Rf_years_2 fl_Rf_59 (fun _ => rfl) (fun _ => rfl) (by first | rfl | assumption) (by exact Nat.le_of_ble_eq_true rfl) ?_
  refine run_hp (show _ = PX f0 ++ hM (z1, z2, z3, z4, z5, z6, z7, z8, z9, sd, y1, y2, y3, y4) tx ho pi rh rp pg tr bk kp ik ta tp ga gr va rw from rfl) ?_
  refine Run.iload_n d_Rf_years_5 rfl ?_
  refine Run.i2l d_Rf_years_6 ?_
  refine Run.lconst (v := 1) d_Rf_years_7 rfl ?_
  refine Run.ldc2 d_Rf_years_8 kn_Rf_248 ?_
  refine Run.S3r d_Rf_years_11 lk_Rf_66 cm_Rf_in st_Rf_in (Nat.le_of_ble_eq_true rfl) (Nat.le_of_ble_eq_true rfl) (c_Rf_in) ?_
  rw [in_C (a := 1) (b := 30) (by omega) (by omega) (by decide +kernel) (by decide +kernel)]
  first | refine Run.if_ne_b d_Rf_years_14 (fun c14 => ?_) (fun c14 => ?_) | refine Run.if_ne_n d_Rf_years_14 (by omega) (fun c14 => ?_) (fun c14 => ?_) | refine Run.if_ne d_Rf_years_14 (fun c14 => ?_) (fun c14 => ?_)
  · rw [show yearsR c p sd m = nI (itN (yrF c) (sd, p, 0) (tn m)).2.2 by rw [yearsR, if_pos c14], show yearsS c p sd m = (itN (yrF c) (sd, p, 0) (tn m)).1 by rw [yearsS, if_pos c14]]
    obtain ⟨M, hM1, hM2, rfl⟩ := inC_t (by omega) (by omega) c14
    rw [tn_nI (by omega)]
    refine Run.aload_n d_Rf_years_20 rfl ?_
    refine Run.V0 d_Rf_years_21 lk_Rf_183 cm_Rf_begin iv_Rf_begin rfl (by first | rfl | assumption) (Nat.le_of_ble_eq_true rfl) (Nat.le_of_ble_eq_true rfl) (q_Rf_begin) (fun r21 h21 q21 => ?_)
    obtain ⟨rfl, t3, hb, rfl⟩ := q21
    refine Run.iconst (v := nI 0) d_Rf_years_24 ic_0 ?_
    refine Run.istore_n d_Rf_years_25 rfl rfl ?_
    show Run _ _ _ _ _ _ [_, _, _, _, _] _ _ _
    refine Run.iconst (v := nI 0) d_Rf_years_26 ic_0 ?_
    refine Run.istore_n d_Rf_years_27 rfl rfl ?_
    show Run _ _ _ _ _ _ [_, _, _, _, _] _ _ _
    exact r_ryears28 hM2 hc hp hh hr (hg.cp hc.2.1 hb)
  · refine Run.bipush (v := -2) d_Rf_years_17 bp_m2 ?_
    refine Run.iret d_Rf_years_19 rfl rfl ?_
    refine ⟨by rw [yearsR, c14]; rfl, tr, ?_⟩
    rw [yearsS, c14]
    rfl
end RYEARS
