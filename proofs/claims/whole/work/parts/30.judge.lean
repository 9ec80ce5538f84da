/-! ===== doings judged ===== -/
theorem lg_eq0 {x y : Int64} : lg_cmp x y = 0 ↔ x = y := by
  constructor
  · intro h
    have h1 : ¬ x < y := fun q => by have := lg_lt.mpr q; rw [h] at this; exact absurd this (by decide)
    have h2 : ¬ y < x := fun q => by have := lg_gt.mpr q; rw [h] at this; exact absurd this (by decide)
    rcases Int64.lt_or_eq_of_le (Int64.not_lt.mp h2) with w | w
    · exact absurd w h1
    · exact w
  · intro h
    subst h
    have h1 : ¬ lg_cmp x x < 0 := fun q => Int64.lt_irrefl (lg_lt.mp q)
    have h2 : ¬ 0 < lg_cmp x x := fun q => Int64.lt_irrefl (lg_gt.mp q)
    rcases Int32.lt_or_eq_of_le (Int32.not_lt.mp h1) with w | w
    · exact absurd w h2
    · exact w.symm
/-- a piece given -/
def gvP (p : PG) (i j : Nat) : PG := (p.1, fun k => if k = i then j else pgW p k, p.2.2.1, p.2.2.2)
/-- what three figures do -/
def doN (c : CA) (p : PG) (w : Nat) : Option PG :=
  if w / 100 = 1 then (if w / 10 % 10 < npC c ∧ w % 10 < 2 then some (tlP p (w / 10 % 10) (decide (w % 10 = 1))) else none)
  else if w / 100 = 2 then (if w / 10 % 10 < npC c ∧ w % 10 < nhC c ∧ ¬ pgW p (w / 10 % 10) = w % 10 then some (gvP p (w / 10 % 10) (w % 10)) else none)
  else if w / 100 = 3 then (if w / 10 % 10 = 0 ∧ w % 10 = 0 then some (hourN p 1) else none)
  else if w / 100 = 4 then (if w / 10 % 10 < nhC c ∧ w % 10 < 5 ∧ (seenN c p (w / 10 % 10)).testBit (w % 10) = true then some p else none)
  else none
theorem gv_ok {c : CA} {p : PG} {i j : Nat} (hp : pgOK c p) (hj : j < nhC c) : pgOK c (gvP p i j) := by
  refine ⟨hp.1, hp.2.1, fun k hk => ⟨(hp.2.2 k hk).1, ?_⟩⟩
  show (if k = i then j else pgW p k) < nhC c
  split
  · exact hj
  · exact (hp.2.2 k hk).2
theorem do_ok {c : CA} {p p2 : PG} {w : Nat} (hp : pgOK c p) (hh : pgH p ≤ 900) (h : doN c p w = some p2) : pgOK c p2 ∧ pgH p2 ≤ pgH p + 1 := by
  unfold doN at h
  split at h
  · split at h
    · cases h; exact ⟨tl_ok hp, Nat.le_succ _⟩
    · cases h
  · split at h
    · split at h
      · rename_i q; cases h; exact ⟨gv_ok hp q.2.1, Nat.le_succ _⟩
      · cases h
    · split at h
      · split at h
        · cases h; exact ⟨⟨Nat.mod_lt _ (by omega), by show pgH p + 1 ≤ 1000; omega, hp.2.2⟩, Nat.le_refl _⟩
        · cases h
      · split at h
        · split at h
          · cases h; exact ⟨hp, Nat.le_succ _⟩
          · cases h
        · cases h
theorem StR.give {c : CA} {p : PG} {ft fw : FI} {li ho ke : Int32} {i j : Nat} (h : StR c p (ft, fw, li, ho, ke)) : StR c (gvP p i j) (ft, upd fw i (nI j), li, ho, ke) := by
  refine ⟨fun k hk => ⟨(h.1 k hk).1, ?_⟩, h.2⟩
  show upd fw i _ k = nI (if k = i then j else pgW p k)
  by_cases hki : k = i
  · subst hki; rw [pk_us, if_pos rfl]
  · rw [pk_un hki, if_neg hki]; exact (h.1 k hk).2
theorem PgV.give {c : CA} {p : PG} {f : FI} {i j : Nat} (hn : npC c ≤ 6) (hi : i < npC c) (h : PgV c p f) : PgV c (gvP p i j) (upd f (6 + i) (nI j)) := by
  refine ⟨fun k hk => ⟨?_, ?_⟩, ?_, ?_⟩
  · rw [pk_un (by omega)]; exact (h.1 k hk).1
  · show upd f (6 + i) _ (6 + k) = nI (if k = i then j else pgW p k)
    by_cases hki : k = i
    · subst hki; rw [pk_us, if_pos rfl]
    · rw [pk_un (by omega), if_neg hki]; exact (h.1 k hk).2
  · rw [pk_un (by omega)]; exact h.2.1
  · rw [pk_un (by omega)]; exact h.2.2
/-- what is so after k doings -/
def jgI (c : CA) (f : Nat → Nat) (p : PG) : Nat → Option PG := itN (fun k o => o.bind (fun q => doN c q (f k))) (some p)
def jgF (c : CA) (f : Nat → Nat) (p : PG) : Nat → Bool := fun k => (jgI c f p (k + 1)).isNone
def digN (r n k : Nat) : Nat := r / 1000 ^ (n - 1 - k) % 1000
def judgeR (c : CA) (p : PG) (n : Int32) (row : Int64) : Int32 := if (inC n 1 4 && (decide (0 ≤ row) && decide (row.toBitVec.toNat < 1000 ^ tn n))) = true then oI (fstN (jgF c (digN row.toBitVec.toNat (tn n)) p) (tn n)) else -2
theorem lN_nat {r : Nat} (hr : r < 2 ^ 63) : (lN r).toBitVec.toNat = r := Nat.mod_eq_of_lt (by omega)
theorem jg_s {c : CA} {f : Nat → Nat} {p q : PG} {k : Nat} (h : jgI c f p k = some q) : jgI c f p (k + 1) = doN c q (f k) := by
  show (itN (fun k o => o.bind (fun q => doN c q (f k))) (some p) k).bind (fun q => doN c q (f k)) = _
  rw [show itN (fun k o => o.bind (fun q => doN c q (f k))) (some p) k = some q from h]
  rfl
section JUDGE
variable {X : Nat × (Nat → Int32)} {d : Nat} {c : CA} {p : PG} {t : AH} {tx : TxS} {ca cb : CoS} {kt kd : Nat} {sd : Int64} {nw tr s0 s1 : StS} {ac : AcS} {tu : TuS} {gi : GiS} {mo : MoS} {dn ch : FI}
theorem q_PM_canBeDone {w : Nat} (hw : w < 1000) (hc : coOK c) (hp : pgOK c p) (ht : TR c ca cb kt kd) (hst : StR c p tr) : Call X (d + 6) 0 0 M_PM_canBeDone [.ref 1, .int (nI w)] (hX tx ca cb kt kd sd nw tr ac tu gi mo dn ch s0 s1 ++ t) (fun r h2 => (doN c p w = none ∧ r = some (.int (bI false)) ∧ h2 = hX tx ca cb kt kd sd nw tr ac tu gi mo dn ch s0 s1 ++ t) ∨ ∃ p2 tr2, doN c p w = some p2 ∧ StR c p2 tr2 ∧ r = some (.int (bI true)) ∧ h2 = hX tx ca cb kt kd sd nw tr2 ac tu gi mo dn ch s0 s1 ++ t) := by
  show Run X (d + 6) 0 0 M_PM_canBeDone 0 [some (.ref 1), some (.int (nI w)), none, none] [] _ _
  obtain ⟨ft, fw, li, ho, ke⟩ := tr
  have hco := TR.at (tx := tx) (sd := sd) (nw := nw) (tr := (ft, fw, li, ho, ke)) (ac := ac) (tu := tu) (gi := gi) (mo := mo) (dn := dn) (ch := ch) (s0 := s0) (s1 := s1) (t := t) ht
  obtain ⟨fhk, fpt, fan, fkd, fhd, li2, g0, -⟩ := id hco
  have b1 := hc.1
  have b2 := hc.2.1
  have e1 : li = nI (pgL p) := hst.2.1
  have e2 : ho = nI (pgH p) := hst.2.2
  subst e1
  subst e2
  rcases (show w / 100 = 1 ∨ w / 100 = 2 ∨ w / 100 = 3 ∨ w / 100 = 4 ∨ (w / 100 = 0 ∨ 5 ≤ w / 100) by omega) with hq | hq | hq | hq | hq
  · have hN : doN c p w = if w / 10 % 10 < npC c ∧ w % 10 < 2 then some (tlP p (w / 10 % 10) (decide (w % 10 = 1))) else none := by rw [doN, if_pos hq]
    generalize ha : w / 10 % 10 = a at hN
    generalize hb : w % 10 = b at hN
    have hb9 : b < 10 := by omega
    have ha9 : a < 10 := by omega
    refine Run.iload_n d_PM_canBeDone_0 rfl ?_
    refine Run.bipush (v := nI 10) d_PM_canBeDone_1 bp_10 ?_
    first | refine Run.idiv_n d_PM_canBeDone_3 (by omega) (by omega) (by omega) ?_ | refine Run.idiv d_PM_canBeDone_3 (by decide +kernel) ?_
    refine Run.bipush (v := nI 10) d_PM_canBeDone_4 bp_10 ?_
    first | refine Run.irem_n d_PM_canBeDone_6 (by omega) (by omega) (by omega) ?_ | refine Run.irem d_PM_canBeDone_6 (by decide +kernel) ?_
    rw [ha]
    refine Run.istore_n d_PM_canBeDone_7 rfl rfl ?_
    show Run _ _ _ _ _ _ [_, _, _, _] _ _ _
    refine Run.iload_n d_PM_canBeDone_8 rfl ?_
    refine Run.bipush (v := nI 10) d_PM_canBeDone_9 bp_10 ?_
    first | refine Run.irem_n d_PM_canBeDone_11 (by omega) (by omega) (by omega) ?_ | refine Run.irem d_PM_canBeDone_11 (by decide +kernel) ?_
    rw [hb]
    refine Run.istore_n d_PM_canBeDone_12 rfl rfl ?_
    show Run _ _ _ _ _ _ [_, _, _, _] _ _ _
    refine Run.iload_n d_PM_canBeDone_13 rfl ?_
    refine Run.bipush (v := nI 100) d_PM_canBeDone_14 bp_100 ?_
    first | refine Run.idiv_n d_PM_canBeDone_16 (by omega) (by omega) (by omega) ?_ | refine Run.idiv d_PM_canBeDone_16 (by decide +kernel) ?_
    rw [hq]
    refine Run.tswIn (off := 31) (tgt := 48) d_PM_canBeDone_17 (by decide +kernel) (by decide +kernel) (by decide +kernel) rfl ?_
    refine Run.aload_n d_PM_canBeDone_48 rfl ?_
    refine Run.getf d_PM_canBeDone_49 fl_PM_19 (by first | rfl | assumption) (by rfl) ?_
    refine Run.iload_n d_PM_canBeDone_52 rfl ?_
    refine Run.V1r d_PM_canBeDone_53 lk_PM_133 cm_Co_hasPiece iv_Co_hasPiece rfl (by first | rfl | assumption) (Nat.le_of_ble_eq_true rfl) (Nat.le_of_ble_eq_true rfl) (c_Co_hasPiece hco) ?_
    rw [inB_nI (by omega) (by omega)]
    first | refine Run.if_eq_b d_PM_canBeDone_56 (fun c56 => ?_) (fun c56 => ?_) | refine Run.if_eq_n d_PM_canBeDone_56 (by omega) (fun c56 => ?_) (fun c56 => ?_) | refine Run.if_eq d_PM_canBeDone_56 (fun c56 => ?_) (fun c56 => ?_)
    · refine Run.iconst (v := nI 0) d_PM_canBeDone_64 ic_0 ?_
      refine Run.iret d_PM_canBeDone_65 rfl (by first | exact bI_nar _ | decide +kernel) ?_
      first
      | exact Or.inl ⟨by rw [hN, if_neg (fun z => of_decide_eq_false c56 z.1)], rfl, rfl⟩
      | exact Or.inl ⟨by rw [hN, if_neg (fun z => by omega)], rfl, rfl⟩
    · rw [decide_eq_true_eq] at c56
      have hT : ft a = nI (pgT p a) := (hst.1 _ c56).1
      refine Run.iload_n d_PM_canBeDone_59 rfl ?_
      refine Run.iconst (v := nI 1) d_PM_canBeDone_60 ic_1 ?_
      first | refine Run.icmp_le_n d_PM_canBeDone_61 (by omega) (by omega) (fun c61 => ?_) (fun c61 => ?_) | refine Run.icmp_le d_PM_canBeDone_61 (fun c61 => ?_) (fun c61 => ?_)
      · refine Run.aload_n d_PM_canBeDone_66 rfl ?_
        refine Run.getf d_PM_canBeDone_67 fl_PM_33 (by first | rfl | assumption) (by rfl) ?_
        refine Run.iload_n d_PM_canBeDone_70 rfl ?_
        refine Run.iload_n d_PM_canBeDone_71 rfl ?_
        refine Run.iconst (v := nI 1) d_PM_canBeDone_72 ic_1 ?_
        first | refine Run.icmp_ne_n d_PM_canBeDone_73 (by omega) (by omega) (fun c73 => ?_) (fun c73 => ?_) | refine Run.icmp_ne d_PM_canBeDone_73 (fun c73 => ?_) (fun c73 => ?_)
        · refine Run.iconst (v := -1) d_PM_canBeDone_80 ic_m1 ?_
          refine Run.V2v d_PM_canBeDone_81 lk_PM_166 cm_St_tiltBy iv_St_tiltBy rfl (by first | rfl | assumption) (Nat.le_of_ble_eq_true rfl) (Nat.le_of_ble_eq_true rfl) (c_St_tiltBy (k := 18) (ft := ft) rfl rfl (by omega)) ?_
          refine Run.iconst (v := nI 1) d_PM_canBeDone_84 ic_1 ?_
          refine Run.iret d_PM_canBeDone_85 rfl (by first | exact bI_nar _ | decide +kernel) ?_
          refine Or.inr ⟨_, (upd ft a (nI (tiN (pgT p a) (decide (b = 1)))), fw, nI (pgL p), nI (pgH p), ke), by rw [hN, if_pos ⟨c56, by omega⟩], hst.tilt, rfl, ?_⟩
          first
            | (rw [hT, m8_p1, decide_eq_true c73]; rfl)
            | (rw [hT, m8_m1, decide_eq_false c73]; rfl)
        · refine Run.iconst (v := nI 1) d_PM_canBeDone_76 ic_1 ?_
          refine Run.goto d_PM_canBeDone_77 ?_
          refine Run.V2v d_PM_canBeDone_81 lk_PM_166 cm_St_tiltBy iv_St_tiltBy rfl (by first | rfl | assumption) (Nat.le_of_ble_eq_true rfl) (Nat.le_of_ble_eq_true rfl) (c_St_tiltBy (k := 18) (ft := ft) rfl rfl (by omega)) ?_
          refine Run.iconst (v := nI 1) d_PM_canBeDone_84 ic_1 ?_
          refine Run.iret d_PM_canBeDone_85 rfl (by first | exact bI_nar _ | decide +kernel) ?_
          refine Or.inr ⟨_, (upd ft a (nI (tiN (pgT p a) (decide (b = 1)))), fw, nI (pgL p), nI (pgH p), ke), by rw [hN, if_pos ⟨c56, by omega⟩], hst.tilt, rfl, ?_⟩
          first
            | (rw [hT, m8_p1, decide_eq_true c73]; rfl)
            | (rw [hT, m8_m1, decide_eq_false c73]; rfl)
      · refine Run.iconst (v := nI 0) d_PM_canBeDone_64 ic_0 ?_
        refine Run.iret d_PM_canBeDone_65 rfl (by first | exact bI_nar _ | decide +kernel) ?_
        first
        | exact Or.inl ⟨by rw [hN, if_neg (fun z => of_decide_eq_false c56 z.1)], rfl, rfl⟩
        | exact Or.inl ⟨by rw [hN, if_neg (fun z => by omega)], rfl, rfl⟩
  · have hN : doN c p w = if w / 10 % 10 < npC c ∧ w % 10 < nhC c ∧ ¬ pgW p (w / 10 % 10) = w % 10 then some (gvP p (w / 10 % 10) (w % 10)) else none := by rw [doN, if_neg (by omega), if_pos hq]
    generalize ha : w / 10 % 10 = a at hN
    generalize hb : w % 10 = b at hN
    have hb9 : b < 10 := by omega
    have ha9 : a < 10 := by omega
    refine Run.iload_n d_PM_canBeDone_0 rfl ?_
    refine Run.bipush (v := nI 10) d_PM_canBeDone_1 bp_10 ?_
    first | refine Run.idiv_n d_PM_canBeDone_3 (by omega) (by omega) (by omega) ?_ | refine Run.idiv d_PM_canBeDone_3 (by decide +kernel) ?_
    refine Run.bipush (v := nI 10) d_PM_canBeDone_4 bp_10 ?_
    first | refine Run.irem_n d_PM_canBeDone_6 (by omega) (by omega) (by omega) ?_ | refine Run.irem d_PM_canBeDone_6 (by decide +kernel) ?_
    rw [ha]
    refine Run.istore_n d_PM_canBeDone_7 rfl rfl ?_
    show Run _ _ _ _ _ _ [_, _, _, _] _ _ _
    refine Run.iload_n d_PM_canBeDone_8 rfl ?_
    refine Run.bipush (v := nI 10) d_PM_canBeDone_9 bp_10 ?_
    first | refine Run.irem_n d_PM_canBeDone_11 (by omega) (by omega) (by omega) ?_ | refine Run.irem d_PM_canBeDone_11 (by decide +kernel) ?_
    rw [hb]
    refine Run.istore_n d_PM_canBeDone_12 rfl rfl ?_
    show Run _ _ _ _ _ _ [_, _, _, _] _ _ _
    refine Run.iload_n d_PM_canBeDone_13 rfl ?_
    refine Run.bipush (v := nI 100) d_PM_canBeDone_14 bp_100 ?_
    first | refine Run.idiv_n d_PM_canBeDone_16 (by omega) (by omega) (by omega) ?_ | refine Run.idiv d_PM_canBeDone_16 (by decide +kernel) ?_
    rw [hq]
    refine Run.tswIn (off := 69) (tgt := 86) d_PM_canBeDone_17 (by decide +kernel) (by decide +kernel) (by decide +kernel) rfl ?_
    refine Run.aload_n d_PM_canBeDone_86 rfl ?_
    refine Run.getf d_PM_canBeDone_87 fl_PM_19 (by first | rfl | assumption) (by rfl) ?_
    refine Run.iload_n d_PM_canBeDone_90 rfl ?_
    refine Run.V1r d_PM_canBeDone_91 lk_PM_133 cm_Co_hasPiece iv_Co_hasPiece rfl (by first | rfl | assumption) (Nat.le_of_ble_eq_true rfl) (Nat.le_of_ble_eq_true rfl) (c_Co_hasPiece hco) ?_
    rw [inB_nI (by omega) (by omega)]
    first | refine Run.if_eq_b d_PM_canBeDone_94 (fun c94 => ?_) (fun c94 => ?_) | refine Run.if_eq_n d_PM_canBeDone_94 (by omega) (fun c94 => ?_) (fun c94 => ?_) | refine Run.if_eq d_PM_canBeDone_94 (fun c94 => ?_) (fun c94 => ?_)
    · refine Run.iconst (v := nI 0) d_PM_canBeDone_121 ic_0 ?_
      refine Run.iret d_PM_canBeDone_122 rfl (by first | exact bI_nar _ | decide +kernel) ?_
      first
      | exact Or.inl ⟨by rw [hN, if_neg (fun z => of_decide_eq_false c94 z.1)], rfl, rfl⟩
      | exact Or.inl ⟨by rw [hN, if_neg (fun z => of_decide_eq_false c105 z.2.1)], rfl, rfl⟩
      | exact Or.inl ⟨by rw [hN, if_neg (fun z => z.2.2 c118)], rfl, rfl⟩
    · rw [decide_eq_true_eq] at c94
      have hW : fw a = nI (pgW p a) := (hst.1 _ c94).2
      have hW4 := (hp.2.2 a c94).2
      refine Run.aload_n d_PM_canBeDone_97 rfl ?_
      refine Run.getf d_PM_canBeDone_98 fl_PM_19 (by first | rfl | assumption) (by rfl) ?_
      refine Run.iload_n d_PM_canBeDone_101 rfl ?_
      refine Run.V1r d_PM_canBeDone_102 lk_PM_119 cm_Co_hasHolder iv_Co_hasHolder rfl (by first | rfl | assumption) (Nat.le_of_ble_eq_true rfl) (Nat.le_of_ble_eq_true rfl) (c_Co_hasHolder hco) ?_
      rw [inB_nI (by omega) (by omega)]
      first | refine Run.if_eq_b d_PM_canBeDone_105 (fun c105 => ?_) (fun c105 => ?_) | refine Run.if_eq_n d_PM_canBeDone_105 (by omega) (fun c105 => ?_) (fun c105 => ?_) | refine Run.if_eq d_PM_canBeDone_105 (fun c105 => ?_) (fun c105 => ?_)
      · refine Run.iconst (v := nI 0) d_PM_canBeDone_121 ic_0 ?_
        refine Run.iret d_PM_canBeDone_122 rfl (by first | exact bI_nar _ | decide +kernel) ?_
        first
        | exact Or.inl ⟨by rw [hN, if_neg (fun z => of_decide_eq_false c94 z.1)], rfl, rfl⟩
        | exact Or.inl ⟨by rw [hN, if_neg (fun z => of_decide_eq_false c105 z.2.1)], rfl, rfl⟩
        | exact Or.inl ⟨by rw [hN, if_neg (fun z => z.2.2 c118)], rfl, rfl⟩
      · rw [decide_eq_true_eq] at c105
        refine Run.aload_n d_PM_canBeDone_108 rfl ?_
        refine Run.getf d_PM_canBeDone_109 fl_PM_33 (by first | rfl | assumption) (by rfl) ?_
        refine Run.getf d_PM_canBeDone_112 fl_PM_148 (by first | rfl | assumption) (by rfl) ?_
        refine Run.iload_n d_PM_canBeDone_115 rfl ?_
        refine Run.iald_n d_PM_canBeDone_116 (by first | rfl | assumption) (by omega) (by omega) ?_
        rw [show (ft, fw, nI (pgL p), nI (pgH p), ke).2.1 a = nI (pgW p a) from hW]
        refine Run.iload_n d_PM_canBeDone_117 rfl ?_
        first | refine Run.icmp_ne_n d_PM_canBeDone_118 (by omega) (by omega) (fun c118 => ?_) (fun c118 => ?_) | refine Run.icmp_ne d_PM_canBeDone_118 (fun c118 => ?_) (fun c118 => ?_)
        · refine Run.aload_n d_PM_canBeDone_123 rfl ?_
          refine Run.getf d_PM_canBeDone_124 fl_PM_33 (by first | rfl | assumption) (by rfl) ?_
          refine Run.iload_n d_PM_canBeDone_127 rfl ?_
          refine Run.iload_n d_PM_canBeDone_128 rfl ?_
          refine Run.V2v d_PM_canBeDone_129 lk_PM_287 cm_St_giveTo iv_St_giveTo rfl (by first | rfl | assumption) (Nat.le_of_ble_eq_true rfl) (Nat.le_of_ble_eq_true rfl) (c_St_giveTo (k := 18) (fw := fw) rfl rfl (by omega)) ?_
          refine Run.iconst (v := nI 1) d_PM_canBeDone_132 ic_1 ?_
          refine Run.iret d_PM_canBeDone_133 rfl (by first | exact bI_nar _ | decide +kernel) ?_
          exact Or.inr ⟨_, (ft, upd fw a (nI b), nI (pgL p), nI (pgH p), ke), by rw [hN, if_pos ⟨c94, c105, c118⟩], hst.give, rfl, rfl⟩
        · refine Run.iconst (v := nI 0) d_PM_canBeDone_121 ic_0 ?_
          refine Run.iret d_PM_canBeDone_122 rfl (by first | exact bI_nar _ | decide +kernel) ?_
          first
          | exact Or.inl ⟨by rw [hN, if_neg (fun z => of_decide_eq_false c94 z.1)], rfl, rfl⟩
          | exact Or.inl ⟨by rw [hN, if_neg (fun z => of_decide_eq_false c105 z.2.1)], rfl, rfl⟩
          | exact Or.inl ⟨by rw [hN, if_neg (fun z => z.2.2 c118)], rfl, rfl⟩
  · have hN : doN c p w = if w / 10 % 10 = 0 ∧ w % 10 = 0 then some (hourN p 1) else none := by rw [doN, if_neg (by omega), if_neg (by omega), if_pos hq]
    generalize ha : w / 10 % 10 = a at hN
    generalize hb : w % 10 = b at hN
    have hb9 : b < 10 := by omega
    have ha9 : a < 10 := by omega
    refine Run.iload_n d_PM_canBeDone_0 rfl ?_
    refine Run.bipush (v := nI 10) d_PM_canBeDone_1 bp_10 ?_
    first | refine Run.idiv_n d_PM_canBeDone_3 (by omega) (by omega) (by omega) ?_ | refine Run.idiv d_PM_canBeDone_3 (by decide +kernel) ?_
    refine Run.bipush (v := nI 10) d_PM_canBeDone_4 bp_10 ?_
    first | refine Run.irem_n d_PM_canBeDone_6 (by omega) (by omega) (by omega) ?_ | refine Run.irem d_PM_canBeDone_6 (by decide +kernel) ?_
    rw [ha]
    refine Run.istore_n d_PM_canBeDone_7 rfl rfl ?_
    show Run _ _ _ _ _ _ [_, _, _, _] _ _ _
    refine Run.iload_n d_PM_canBeDone_8 rfl ?_
    refine Run.bipush (v := nI 10) d_PM_canBeDone_9 bp_10 ?_
    first | refine Run.irem_n d_PM_canBeDone_11 (by omega) (by omega) (by omega) ?_ | refine Run.irem d_PM_canBeDone_11 (by decide +kernel) ?_
    rw [hb]
    refine Run.istore_n d_PM_canBeDone_12 rfl rfl ?_
    show Run _ _ _ _ _ _ [_, _, _, _] _ _ _
    refine Run.iload_n d_PM_canBeDone_13 rfl ?_
    refine Run.bipush (v := nI 100) d_PM_canBeDone_14 bp_100 ?_
    first | refine Run.idiv_n d_PM_canBeDone_16 (by omega) (by omega) (by omega) ?_ | refine Run.idiv d_PM_canBeDone_16 (by decide +kernel) ?_
    rw [hq]
    refine Run.tswIn (off := 117) (tgt := 134) d_PM_canBeDone_17 (by decide +kernel) (by decide +kernel) (by decide +kernel) rfl ?_
    refine Run.iload_n d_PM_canBeDone_134 rfl ?_
    first | refine Run.if_ne_b d_PM_canBeDone_135 (fun c135 => ?_) (fun c135 => ?_) | refine Run.if_ne_n d_PM_canBeDone_135 (by omega) (fun c135 => ?_) (fun c135 => ?_) | refine Run.if_ne d_PM_canBeDone_135 (fun c135 => ?_) (fun c135 => ?_)
    · refine Run.iconst (v := nI 0) d_PM_canBeDone_142 ic_0 ?_
      refine Run.iret d_PM_canBeDone_143 rfl (by first | exact bI_nar _ | decide +kernel) ?_
      first
      | exact Or.inl ⟨by rw [hN, if_neg (fun z => c135 z.1)], rfl, rfl⟩
      | exact Or.inl ⟨by rw [hN, if_neg (fun z => c139 z.2)], rfl, rfl⟩
    · refine Run.iload_n d_PM_canBeDone_138 rfl ?_
      first | refine Run.if_eq_b d_PM_canBeDone_139 (fun c139 => ?_) (fun c139 => ?_) | refine Run.if_eq_n d_PM_canBeDone_139 (by omega) (fun c139 => ?_) (fun c139 => ?_) | refine Run.if_eq d_PM_canBeDone_139 (fun c139 => ?_) (fun c139 => ?_)
      · refine Run.aload_n d_PM_canBeDone_144 rfl ?_
        refine Run.getf d_PM_canBeDone_145 fl_PM_33 (by first | rfl | assumption) (by rfl) ?_
        refine Run.iconst (v := nI 1) d_PM_canBeDone_148 ic_1 ?_
        refine Run.V1v d_PM_canBeDone_149 lk_PM_173 cm_St_passHours iv_St_passHours rfl (by first | rfl | assumption) (Nat.le_of_ble_eq_true rfl) (Nat.le_of_ble_eq_true rfl) (c_St_passHours (k := 18) (li := nI (pgL p)) (ho := nI (pgH p)) rfl) ?_
        rw [m8_p1, nI_add]
        refine Run.iconst (v := nI 1) d_PM_canBeDone_152 ic_1 ?_
        refine Run.iret d_PM_canBeDone_153 rfl (by first | exact bI_nar _ | decide +kernel) ?_
        exact Or.inr ⟨_, _, by rw [hN, if_pos ⟨c135, c139⟩], hst.hour, rfl, rfl⟩
      · refine Run.iconst (v := nI 0) d_PM_canBeDone_142 ic_0 ?_
        refine Run.iret d_PM_canBeDone_143 rfl (by first | exact bI_nar _ | decide +kernel) ?_
        first
        | exact Or.inl ⟨by rw [hN, if_neg (fun z => c135 z.1)], rfl, rfl⟩
        | exact Or.inl ⟨by rw [hN, if_neg (fun z => c139 z.2)], rfl, rfl⟩
  · have hN : doN c p w = if w / 10 % 10 < nhC c ∧ w % 10 < 5 ∧ (seenN c p (w / 10 % 10)).testBit (w % 10) = true then some p else none := by rw [doN, if_neg (by omega), if_neg (by omega), if_neg (by omega), if_pos hq]
    generalize ha : w / 10 % 10 = a at hN
    generalize hb : w % 10 = b at hN
    have hb9 : b < 10 := by omega
    have ha9 : a < 10 := by omega
    have w1 := seenN_lt hc p a
    refine Run.iload_n d_PM_canBeDone_0 rfl ?_
    refine Run.bipush (v := nI 10) d_PM_canBeDone_1 bp_10 ?_
    first | refine Run.idiv_n d_PM_canBeDone_3 (by omega) (by omega) (by omega) ?_ | refine Run.idiv d_PM_canBeDone_3 (by decide +kernel) ?_
    refine Run.bipush (v := nI 10) d_PM_canBeDone_4 bp_10 ?_
    first | refine Run.irem_n d_PM_canBeDone_6 (by omega) (by omega) (by omega) ?_ | refine Run.irem d_PM_canBeDone_6 (by decide +kernel) ?_
    rw [ha]
    refine Run.istore_n d_PM_canBeDone_7 rfl rfl ?_
    show Run _ _ _ _ _ _ [_, _, _, _] _ _ _
    refine Run.iload_n d_PM_canBeDone_8 rfl ?_
    refine Run.bipush (v := nI 10) d_PM_canBeDone_9 bp_10 ?_
    first | refine Run.irem_n d_PM_canBeDone_11 (by omega) (by omega) (by omega) ?_ | refine Run.irem d_PM_canBeDone_11 (by decide +kernel) ?_
    rw [hb]
    refine Run.istore_n d_PM_canBeDone_12 rfl rfl ?_
    show Run _ _ _ _ _ _ [_, _, _, _] _ _ _
    refine Run.iload_n d_PM_canBeDone_13 rfl ?_
    refine Run.bipush (v := nI 100) d_PM_canBeDone_14 bp_100 ?_
    first | refine Run.idiv_n d_PM_canBeDone_16 (by omega) (by omega) (by omega) ?_ | refine Run.idiv d_PM_canBeDone_16 (by decide +kernel) ?_
    rw [hq]
    refine Run.tswIn (off := 137) (tgt := 154) d_PM_canBeDone_17 (by decide +kernel) (by decide +kernel) (by decide +kernel) rfl ?_
    refine Run.aload_n d_PM_canBeDone_154 rfl ?_
    refine Run.getf d_PM_canBeDone_155 fl_PM_19 (by first | rfl | assumption) (by rfl) ?_
    refine Run.iload_n d_PM_canBeDone_158 rfl ?_
    refine Run.V1r d_PM_canBeDone_159 lk_PM_119 cm_Co_hasHolder iv_Co_hasHolder rfl (by first | rfl | assumption) (Nat.le_of_ble_eq_true rfl) (Nat.le_of_ble_eq_true rfl) (c_Co_hasHolder hco) ?_
    rw [inB_nI (by omega) (by omega)]
    first | refine Run.if_eq_b d_PM_canBeDone_162 (fun c162 => ?_) (fun c162 => ?_) | refine Run.if_eq_n d_PM_canBeDone_162 (by omega) (fun c162 => ?_) (fun c162 => ?_) | refine Run.if_eq d_PM_canBeDone_162 (fun c162 => ?_) (fun c162 => ?_)
    · refine Run.iconst (v := nI 0) d_PM_canBeDone_191 ic_0 ?_
      refine Run.iret d_PM_canBeDone_192 rfl (by first | exact bI_nar _ | decide +kernel) ?_
      first
      | exact Or.inl ⟨by rw [hN, if_neg (fun z => of_decide_eq_false c162 z.1)], rfl, rfl⟩
      | exact Or.inl ⟨by rw [hN, if_neg (fun z => by omega)], rfl, rfl⟩
      | exact Or.inl ⟨by rw [hN, if_neg (fun z => by rw [c184] at z; cases z.2.2)], rfl, rfl⟩
      | exact Or.inr ⟨p, _, by rw [hN, if_pos ⟨c162, by omega, c184⟩], hst, rfl, rfl⟩
    · rw [decide_eq_true_eq] at c162
      refine Run.iload_n d_PM_canBeDone_165 rfl ?_
      refine Run.iconst (v := nI 5) d_PM_canBeDone_166 ic_5 ?_
      first | refine Run.icmp_ge_n d_PM_canBeDone_167 (by omega) (by omega) (fun c167 => ?_) (fun c167 => ?_) | refine Run.icmp_ge d_PM_canBeDone_167 (fun c167 => ?_) (fun c167 => ?_)
      · refine Run.iconst (v := nI 0) d_PM_canBeDone_191 ic_0 ?_
        refine Run.iret d_PM_canBeDone_192 rfl (by first | exact bI_nar _ | decide +kernel) ?_
        first
        | exact Or.inl ⟨by rw [hN, if_neg (fun z => of_decide_eq_false c162 z.1)], rfl, rfl⟩
        | exact Or.inl ⟨by rw [hN, if_neg (fun z => by omega)], rfl, rfl⟩
        | exact Or.inl ⟨by rw [hN, if_neg (fun z => by rw [c184] at z; cases z.2.2)], rfl, rfl⟩
        | exact Or.inr ⟨p, _, by rw [hN, if_pos ⟨c162, by omega, c184⟩], hst, rfl, rfl⟩
      · refine Run.aload_n d_PM_canBeDone_170 rfl ?_
        refine Run.aload_n d_PM_canBeDone_171 rfl ?_
        refine Run.getf d_PM_canBeDone_172 fl_PM_33 (by first | rfl | assumption) (by rfl) ?_
        refine Run.iload_n d_PM_canBeDone_175 rfl ?_
        refine Run.iconst (v := nI 0) d_PM_canBeDone_176 ic_0 ?_
        refine Run.V3r d_PM_canBeDone_177 lk_PM_129 cm_PM_partsSeen iv_PM_partsSeen rfl (by first | rfl | assumption) (Nat.le_of_ble_eq_true rfl) (Nat.le_of_ble_eq_true rfl) (c_PM_partsSeen hc hp ht.tl hst.tri c162 (by omega)) ?_
        rw [hourN_0 hp]
        refine Run.iload_n d_PM_canBeDone_180 rfl ?_
        refine Run.S2r d_PM_canBeDone_181 lk_PM_193 cm_PM_hasBit st_PM_hasBit (Nat.le_of_ble_eq_true rfl) (Nat.le_of_ble_eq_true rfl) (c_PM_hasBit (by omega) (by omega)) ?_
        first | refine Run.if_eq_b d_PM_canBeDone_184 (fun c184 => ?_) (fun c184 => ?_) | refine Run.if_eq_n d_PM_canBeDone_184 (by omega) (fun c184 => ?_) (fun c184 => ?_) | refine Run.if_eq d_PM_canBeDone_184 (fun c184 => ?_) (fun c184 => ?_)
        · refine Run.iconst (v := nI 0) d_PM_canBeDone_191 ic_0 ?_
          refine Run.iret d_PM_canBeDone_192 rfl (by first | exact bI_nar _ | decide +kernel) ?_
          first
          | exact Or.inl ⟨by rw [hN, if_neg (fun z => of_decide_eq_false c162 z.1)], rfl, rfl⟩
          | exact Or.inl ⟨by rw [hN, if_neg (fun z => by omega)], rfl, rfl⟩
          | exact Or.inl ⟨by rw [hN, if_neg (fun z => by rw [c184] at z; cases z.2.2)], rfl, rfl⟩
          | exact Or.inr ⟨p, _, by rw [hN, if_pos ⟨c162, by omega, c184⟩], hst, rfl, rfl⟩
        · refine Run.iconst (v := nI 1) d_PM_canBeDone_187 ic_1 ?_
          refine Run.goto d_PM_canBeDone_188 ?_
          refine Run.iret d_PM_canBeDone_192 rfl (by first | exact bI_nar _ | decide +kernel) ?_
          first
          | exact Or.inl ⟨by rw [hN, if_neg (fun z => of_decide_eq_false c162 z.1)], rfl, rfl⟩
          | exact Or.inl ⟨by rw [hN, if_neg (fun z => by omega)], rfl, rfl⟩
          | exact Or.inl ⟨by rw [hN, if_neg (fun z => by rw [c184] at z; cases z.2.2)], rfl, rfl⟩
          | exact Or.inr ⟨p, _, by rw [hN, if_pos ⟨c162, by omega, c184⟩], hst, rfl, rfl⟩
  · have hN : doN c p w = none := by rw [doN, if_neg (by omega), if_neg (by omega), if_neg (by omega), if_neg (by omega)]
    refine Run.iload_n d_PM_canBeDone_0 rfl ?_
    refine Run.bipush (v := nI 10) d_PM_canBeDone_1 bp_10 ?_
    first | refine Run.idiv_n d_PM_canBeDone_3 (by omega) (by omega) (by omega) ?_ | refine Run.idiv d_PM_canBeDone_3 (by decide +kernel) ?_
    refine Run.bipush (v := nI 10) d_PM_canBeDone_4 bp_10 ?_
    first | refine Run.irem_n d_PM_canBeDone_6 (by omega) (by omega) (by omega) ?_ | refine Run.irem d_PM_canBeDone_6 (by decide +kernel) ?_
    refine Run.istore_n d_PM_canBeDone_7 rfl rfl ?_
    show Run _ _ _ _ _ _ [_, _, _, _] _ _ _
    refine Run.iload_n d_PM_canBeDone_8 rfl ?_
    refine Run.bipush (v := nI 10) d_PM_canBeDone_9 bp_10 ?_
    first | refine Run.irem_n d_PM_canBeDone_11 (by omega) (by omega) (by omega) ?_ | refine Run.irem d_PM_canBeDone_11 (by decide +kernel) ?_
    refine Run.istore_n d_PM_canBeDone_12 rfl rfl ?_
    show Run _ _ _ _ _ _ [_, _, _, _] _ _ _
    refine Run.iload_n d_PM_canBeDone_13 rfl ?_
    refine Run.bipush (v := nI 100) d_PM_canBeDone_14 bp_100 ?_
    first | refine Run.idiv_n d_PM_canBeDone_16 (by omega) (by omega) (by omega) ?_ | refine Run.idiv d_PM_canBeDone_16 (by decide +kernel) ?_
    refine Run.tswOut (tgt := 193) d_PM_canBeDone_17 (by rw [nI_toInt (by omega)]; omega) rfl ?_
    refine Run.iconst (v := nI 0) d_PM_canBeDone_193 ic_0 ?_
    refine Run.iret d_PM_canBeDone_194 rfl (by first | exact bI_nar _ | decide +kernel) ?_
    exact Or.inl ⟨hN, rfl, rfl⟩
theorem r_judge84 {n : Nat} {f : Nat → Nat} {row : Int64} {v4 : Option Value} (hn : n ≤ 4) (hc : coOK c) (hp : pgOK c p) (hh : pgH p ≤ 800) (ht : TR c ca cb kt kd) (hst : StR c p tr) (hf : ∀ k, k < n → dn k = nI (f k) ∧ f k < 1000) : Run X (d + 7) 0 0 M_PM_judge 84 [some (.ref 1), some (.int (nI n)), some (.long row), none, v4, none, some (.int (nI 0))] [] (hX tx ca cb kt kd sd nw tr ac tu gi mo dn ch s0 s1 ++ t) (fun r h2 => r = some (.int (oI (fstN (jgF c f p) n))) ∧ ∃ tr2, h2 = hX tx ca cb kt kd sd nw tr2 ac tu gi mo dn ch s0 s1 ++ t) := by
  refine upto n (fun k => ∀ (q : PG) (tr2 : StS), jgI c f p k = some q → fstN (jgF c f p) k = none → StR c q tr2 → pgOK c q → pgH q ≤ pgH p + k → Run X (d + 7) 0 0 M_PM_judge 84 [some (.ref 1), some (.int (nI n)), some (.long row), none, v4, none, some (.int (nI k))] [] (hX tx ca cb kt kd sd nw tr2 ac tu gi mo dn ch s0 s1 ++ t) (fun r h2 => r = some (.int (oI (fstN (jgF c f p) n))) ∧ ∃ tr2, h2 = hX tx ca cb kt kd sd nw tr2 ac tu gi mo dn ch s0 s1 ++ t)) ?_ 0 (Nat.zero_le _) p tr rfl rfl hst hp (Nat.le_refl _)
  intro k hk ih q tr2 hq hfn hs2 hp2 hh2
  have hJ := jg_s hq
  have hA : k < n → doN c q (f k) = none → Run X (d + 7) 0 0 M_PM_judge 101 [some (.ref 1), some (.int (nI n)), some (.long row), none, v4, none, some (.int (nI k))] [.int (bI false)] (hX tx ca cb kt kd sd nw tr2 ac tu gi mo dn ch s0 s1 ++ t) (fun r h2 => r = some (.int (oI (fstN (jgF c f p) n))) ∧ ∃ tr2, h2 = hX tx ca cb kt kd sd nw tr2 ac tu gi mo dn ch s0 s1 ++ t) := by
    intro c87 hD
    have hb : jgF c f p k = true := by rw [jgF, hJ, hD]; rfl
    first | refine Run.if_ne_b d_PM_judge_101 (fun c101 => ?_) (fun c101 => ?_) | refine Run.if_ne_n d_PM_judge_101 (by omega) (fun c101 => ?_) (fun c101 => ?_) | refine Run.if_ne d_PM_judge_101 (fun c101 => ?_) (fun c101 => ?_)
    · cases c101
    · refine Run.iload d_PM_judge_104 rfl ?_
      refine Run.iret d_PM_judge_106 rfl rfl ?_
      exact ⟨by rw [fstN_s hfn hb n c87]; rfl, tr2, rfl⟩
  have hB : k < n → ∀ p3 tr3, doN c q (f k) = some p3 → StR c p3 tr3 → Run X (d + 7) 0 0 M_PM_judge 101 [some (.ref 1), some (.int (nI n)), some (.long row), none, v4, none, some (.int (nI k))] [.int (bI true)] (hX tx ca cb kt kd sd nw tr3 ac tu gi mo dn ch s0 s1 ++ t) (fun r h2 => r = some (.int (oI (fstN (jgF c f p) n))) ∧ ∃ tr2, h2 = hX tx ca cb kt kd sd nw tr2 ac tu gi mo dn ch s0 s1 ++ t) := by
    intro c87 p3 tr3 hD hs3
    have hb : jgF c f p k = false := by rw [jgF, hJ, hD]; rfl
    have hk3 := do_ok hp2 (by omega) hD
    first | refine Run.if_ne_b d_PM_judge_101 (fun c101 => ?_) (fun c101 => ?_) | refine Run.if_ne_n d_PM_judge_101 (by omega) (fun c101 => ?_) (fun c101 => ?_) | refine Run.if_ne d_PM_judge_101 (fun c101 => ?_) (fun c101 => ?_)
    · first | refine Run.iinc_n d_PM_judge_107 ic_1 rfl rfl ?_ | refine Run.iinc d_PM_judge_107 rfl rfl rfl ?_
      show Run _ _ _ _ _ _ [_, _, _, _, _, _, _] _ _ _
      refine Run.goto d_PM_judge_110 ?_
      exact ih c87 p3 tr3 (by rw [hJ, hD]) (fstN_n hfn hb) hs3 hk3.1 (by omega)
    · cases c101
  refine Run.iload d_PM_judge_84 rfl ?_
  refine Run.iload_n d_PM_judge_86 rfl ?_
  first | refine Run.icmp_ge_n d_PM_judge_87 (by omega) (by omega) (fun c87 => ?_) (fun c87 => ?_) | refine Run.icmp_ge d_PM_judge_87 (fun c87 => ?_) (fun c87 => ?_)
  · refine Run.bipush (v := -9) d_PM_judge_113 bp_m9 ?_
    refine Run.iret d_PM_judge_115 rfl rfl ?_
    exact ⟨by rw [show n = k by omega, hfn]; rfl, tr2, rfl⟩
  · refine Run.aload_n d_PM_judge_90 rfl ?_
    refine Run.aload_n d_PM_judge_91 rfl ?_
    refine Run.getf d_PM_judge_92 fl_PM_68 (by first | rfl | assumption) (by rfl) ?_
    refine Run.iload d_PM_judge_95 rfl ?_
    refine Run.iald_n d_PM_judge_97 (by first | rfl | assumption) (by omega) (by omega) ?_
    rw [(hf k c87).1]
    refine Run.V1 d_PM_judge_98 lk_PM_224 cm_PM_canBeDone iv_PM_canBeDone rfl (by first | rfl | assumption) (Nat.le_of_ble_eq_true rfl) (Nat.le_of_ble_eq_true rfl) (q_PM_canBeDone (hf k c87).2 hc hp2 ht hs2) (fun r98 h98 q98 => ?_)
    rcases q98 with ⟨hD, rfl, rfl⟩ | ⟨p3, tr3, hD, hs3, rfl, rfl⟩
    · exact hA c87 hD
    · exact hB c87 p3 tr3 hD hs3
theorem q_PM_judge {n : Int32} {row : Int64} (hc : coOK c) (hp : pgOK c p) (hh : pgH p ≤ 800) (ht : TR c ca cb kt kd) (hst : StR c p nw) : Call X (d + 7) 0 0 M_PM_judge [.ref 1, .int n, .long row] (hX tx ca cb kt kd sd nw tr ac tu gi mo dn ch s0 s1 ++ t) (fun r h2 => r = some (.int (judgeR c p n row)) ∧ ∃ tr2 dn2, h2 = hX tx ca cb kt kd sd nw tr2 ac tu gi mo dn2 ch s0 s1 ++ t) := by
  show Run X (d + 7) 0 0 M_PM_judge 0 [some (.ref 1), some (.int n), some (.long row), none, none, none, none] [] _ _
  have key : ∀ (n r : Nat), 1 ≤ n → n ≤ 4 → r < 2 ^ 63 → ∀ R0 : Int32, (r < 1000 ^ n → R0 = oI (fstN (jgF c (digN r n) p) n)) → (¬ r < 1000 ^ n → R0 = -2) → ∀ s, s ≤ n → ∀ dn2 : FI, (∀ i, s ≤ i → i < n → dn2 i = nI (digN r n i)) → Run X (d + 7) 0 0 M_PM_judge 27 [some (.ref 1), some (.int (nI n)), some (.long (lN r)), none, some (.long (lN (r / 1000 ^ (n - s)))), none, some (.int (nI s + -1))] [] (hX tx ca cb kt kd sd nw tr ac tu gi mo dn2 ch s0 s1 ++ t) (fun r h2 => r = some (.int R0) ∧ ∃ tr2 dn2, h2 = hX tx ca cb kt kd sd nw tr2 ac tu gi mo dn2 ch s0 s1 ++ t) := by
    intro n r hn1 hn4 hr R0 hR1 hR2 s
    induction s with
    | zero =>
      intro hs dn2 he
      rw [show nI 0 + -1 = (-1 : Int32) from by decide +kernel, Nat.sub_zero]
      have hq : r / 1000 ^ n < 2 ^ 63 := Nat.lt_of_le_of_lt (Nat.div_le_self _ _) hr
      refine Run.iload d_PM_judge_27 rfl ?_
      refine Run.if_lt d_PM_judge_29 (fun c29 => ?_) (fun c29 => ?_)
      · refine Run.lload d_PM_judge_60 rfl ?_
        refine Run.lconst (v := 0) d_PM_judge_62 rfl ?_
        refine Run.lcmp d_PM_judge_63 ?_
        first | refine Run.if_eq_b d_PM_judge_64 (fun c64 => ?_) (fun c64 => ?_) | refine Run.if_eq_n d_PM_judge_64 (by omega) (fun c64 => ?_) (fun c64 => ?_) | refine Run.if_eq d_PM_judge_64 (fun c64 => ?_) (fun c64 => ?_)
        · rw [lg_eq0, show (0 : Int64) = lN 0 from rfl, pk_lEQ hq (by omega)] at c64
          have hlt : r < 1000 ^ n := by
            rcases Nat.lt_or_ge r (1000 ^ n) with q | q
            · exact q
            · have := Nat.div_pos q (Nat.pow_pos (by omega)); omega
          refine Run.aload_n d_PM_judge_70 rfl ?_
          refine Run.getf d_PM_judge_71 fl_PM_33 (by first | rfl | assumption) (by rfl) ?_
          refine Run.aload_n d_PM_judge_74 rfl ?_
          refine Run.getf d_PM_judge_75 fl_PM_29 (by first | rfl | assumption) (by rfl) ?_
          refine Run.V1v d_PM_judge_78 lk_PM_220 cm_St_copyFrom iv_St_copyFrom rfl (by first | rfl | assumption) (Nat.le_of_ble_eq_true rfl) (Nat.le_of_ble_eq_true rfl) (c_St_copyFrom (k := 18) (k2 := 15) (v1 := .null) (v2 := .null) rfl rfl rfl rfl rfl rfl (by omega)) ?_
          refine run_hp (show _ = hX tx ca cb kt kd sd nw (stCp tr nw) ac tu gi mo dn2 ch s0 s1 ++ t from rfl) ?_
          rw [hR1 hlt]
          refine Run.iconst (v := nI 0) d_PM_judge_81 ic_0 ?_
          refine Run.istore d_PM_judge_82 rfl rfl ?_
          show Run _ _ _ _ _ _ [_, _, _, _, _, _, _] _ _ _
          refine Run.weaken ?_ (r_judge84 hn4 hc hp hh ht (hst.cp hc.2.1) (fun k hk => ⟨he k (by omega) hk, Nat.mod_lt _ (by omega)⟩))
          rintro r2 h2 ⟨h1, tr2, h3⟩
          exact ⟨h1, tr2, dn2, h3⟩
        · rw [lg_eq0, show (0 : Int64) = lN 0 from rfl, pk_lEQ hq (by omega)] at c64
          refine Run.bipush (v := -2) d_PM_judge_67 bp_m2 ?_
          refine Run.iret d_PM_judge_69 rfl rfl ?_
          exact ⟨by rw [hR2 (fun z => c64 (Nat.div_eq_of_lt z))], tr, dn2, rfl⟩
      · exact absurd (by decide) c29
    | succ s ihs =>
      intro hs dn2 he
      rw [pk_m1]
      have hq : r / 1000 ^ (n - (s + 1)) < 2 ^ 63 := Nat.lt_of_le_of_lt (Nat.div_le_self _ _) hr
      have hdd : r / 1000 ^ (n - (s + 1)) / 1000 = r / 1000 ^ (n - s) := by rw [Nat.div_div_eq_div_mul, ← Nat.pow_succ, show (n - (s + 1)).succ = n - s by omega]
      refine Run.iload d_PM_judge_27 rfl ?_
      refine Run.if_lt d_PM_judge_29 (fun c29 => ?_) (fun c29 => ?_)
      · exact absurd c29 (nI_pos (by omega))
      · refine Run.aload_n d_PM_judge_32 rfl ?_
        refine Run.getf d_PM_judge_33 fl_PM_68 (by first | rfl | assumption) (by rfl) ?_
        refine Run.iload d_PM_judge_36 rfl ?_
        refine Run.lload d_PM_judge_38 rfl ?_
        refine Run.ldc2 d_PM_judge_40 kn_PM_218 ?_
        refine Run.lrem d_PM_judge_43 (by decide +kernel) ?_
        rw [show (1000 : Int64) = lN 1000 from rfl, pk_lRem hq (by omega) (by omega)]
        refine Run.l2i d_PM_judge_44 ?_
        rw [lN_i]
        refine Run.iast_n d_PM_judge_45 (by first | rfl | assumption) (by omega) (by omega) ?_
        refine run_hp (show _ = hX tx ca cb kt kd sd nw tr ac tu gi mo (upd dn2 s (nI (r / 1000 ^ (n - (s + 1)) % 1000))) ch s0 s1 ++ t from rfl) ?_
        refine Run.lload d_PM_judge_46 rfl ?_
        refine Run.ldc2 d_PM_judge_48 kn_PM_218 ?_
        refine Run.ldiv d_PM_judge_51 (by decide +kernel) ?_
        rw [show (1000 : Int64) = lN 1000 from rfl, pk_lDiv hq (by omega) (by omega), hdd]
        refine Run.lstore d_PM_judge_52 rfl rfl ?_
        show Run _ _ _ _ _ _ [_, _, _, _, _, _, _] _ _ _
        first | refine Run.iinc_d d_PM_judge_54 ic_m1 rfl rfl ?_ | refine Run.iinc d_PM_judge_54 rfl rfl rfl ?_
        show Run _ _ _ _ _ _ [_, _, _, _, _, _, _] _ _ _
        rw [ic_m1]
        refine Run.goto d_PM_judge_57 ?_
        refine ihs (by omega) _ (fun i h1 h2 => ?_)
        by_cases his : i = s
        · subst his
          rw [pk_us, digN, show n - (i + 1) = n - 1 - i by omega]
        · rw [pk_un his]
          exact he i (by omega) h2
  refine Run.iload_n d_PM_judge_0 rfl ?_
  refine Run.iconst (v := nI 1) d_PM_judge_1 ic_1 ?_
  first | refine Run.icmp_lt_n d_PM_judge_2 (by omega) (by omega) (fun c2 => ?_) (fun c2 => ?_) | refine Run.icmp_lt d_PM_judge_2 (fun c2 => ?_) (fun c2 => ?_)
  · refine Run.bipush (v := -2) d_PM_judge_16 bp_m2 ?_
    refine Run.iret d_PM_judge_18 rfl rfl ?_
    refine ⟨?_, tr, dn, rfl⟩
    first
      | (rw [judgeR, inC_lo c2]; rfl)
      | (rw [judgeR, inC_hi c7]; rfl)
      | (have h0 : row < 0 := lg_lt.mp (Int32.not_le.mp c13)
         rw [judgeR, decide_eq_false (Int64.not_le.mpr h0), Bool.false_and, Bool.and_false]; rfl)
  · refine Run.iload_n d_PM_judge_5 rfl ?_
    refine Run.iconst (v := nI 4) d_PM_judge_6 ic_4 ?_
    first | refine Run.icmp_gt_n d_PM_judge_7 (by omega) (by omega) (fun c7 => ?_) (fun c7 => ?_) | refine Run.icmp_gt d_PM_judge_7 (fun c7 => ?_) (fun c7 => ?_)
    · refine Run.bipush (v := -2) d_PM_judge_16 bp_m2 ?_
      refine Run.iret d_PM_judge_18 rfl rfl ?_
      refine ⟨?_, tr, dn, rfl⟩
      first
        | (rw [judgeR, inC_lo c2]; rfl)
        | (rw [judgeR, inC_hi c7]; rfl)
        | (have h0 : row < 0 := lg_lt.mp (Int32.not_le.mp c13)
           rw [judgeR, decide_eq_false (Int64.not_le.mpr h0), Bool.false_and, Bool.and_false]; rfl)
    · refine Run.lload_n d_PM_judge_10 rfl ?_
      refine Run.lconst (v := 0) d_PM_judge_11 rfl ?_
      refine Run.lcmp d_PM_judge_12 ?_
      refine Run.if_ge d_PM_judge_13 (fun c13 => ?_) (fun c13 => ?_)
      · have h0 : ¬ row < 0 := fun q => by have := lg_lt.mpr q; exact absurd this (Int32.not_lt.mpr c13)
        have hN := inC_in (a := 1) (b := 4) c2 c7
        have hR : judgeR c p n row = if row.toBitVec.toNat < 1000 ^ tn n then oI (fstN (jgF c (digN row.toBitVec.toNat (tn n)) p) (tn n)) else -2 := by
          rw [judgeR, hN, Bool.true_and, decide_eq_true (Int64.not_lt.mp h0), Bool.true_and]
          by_cases hz : row.toBitVec.toNat < 1000 ^ tn n
          · rw [if_pos hz, if_pos (decide_eq_true hz)]
          · rw [if_neg hz, if_neg (fun z => hz (of_decide_eq_true z))]
        obtain ⟨M, hM1, hM2, rfl⟩ := inC_t (by omega) (by omega) hN
        obtain ⟨r, hr, rfl⟩ := pk_lOf h0
        rw [tn_nI (by omega), lN_nat hr] at hR
        refine Run.lload_n d_PM_judge_19 rfl ?_
        refine Run.lstore d_PM_judge_20 rfl rfl ?_
        show Run _ _ _ _ _ _ [_, _, _, _, _, _, _] _ _ _
        refine Run.iload_n d_PM_judge_22 rfl ?_
        refine Run.iconst (v := nI 1) d_PM_judge_23 ic_1 ?_
        refine Run.isub d_PM_judge_24 ?_
        rw [show nI M - nI 1 = nI M + -1 from by rw [pk_sub hM1, show M = M - 1 + 1 by omega, pk_m1, Nat.add_sub_cancel]]
        refine Run.istore d_PM_judge_25 rfl rfl ?_
        show Run _ _ _ _ _ _ [_, _, _, _, _, _, _] _ _ _
        have k0 := key M r hM1 hM2 hr (judgeR c p (nI M) (lN r)) (fun z => by rw [hR, if_pos z]) (fun z => by rw [hR, if_neg z]) M (Nat.le_refl _) dn (fun i h1 h2 => by omega)
        rw [Nat.sub_self, Nat.pow_zero, Nat.div_one] at k0
        exact k0
      · refine Run.bipush (v := -2) d_PM_judge_16 bp_m2 ?_
        refine Run.iret d_PM_judge_18 rfl rfl ?_
        refine ⟨?_, tr, dn, rfl⟩
        first
          | (rw [judgeR, inC_lo c2]; rfl)
          | (rw [judgeR, inC_hi c7]; rfl)
          | (have h0 : row < 0 := lg_lt.mp (Int32.not_le.mp c13)
             rw [judgeR, decide_eq_false (Int64.not_le.mpr h0), Bool.false_and, Bool.and_false]; rfl)
end JUDGE
section RJUDGE
variable {X : Nat × (Nat → Int32)} {d : Nat} {c : CA} {p : PG} {f0 : Nat → AC} {nu : NuS} {tx ho pi rh rp pg tr bk kp ik ta tp ga gr va rw : FI}
theorem q_Rf_does {w : Nat} (hw : w < 1000) (hc : coOK c) (hp : pgOK c p) (hr : RfR c nu.2.2.1 nu.2.2.2.1 ho pi) (hg : PgV c p tr) : Call X (d + 5) 0 0 M_Rf_does [.ref 44, .int (nI w)] (PX f0 ++ hM nu tx ho pi rh rp pg tr bk kp ik ta tp ga gr va rw) (fun r h2 => (doN c p w = none ∧ r = some (.int (bI false)) ∧ h2 = PX f0 ++ hM nu tx ho pi rh rp pg tr bk kp ik ta tp ga gr va rw) ∨ ∃ p2 tr2, doN c p w = some p2 ∧ PgV c p2 tr2 ∧ r = some (.int (bI true)) ∧ h2 = PX f0 ++ hM nu tx ho pi rh rp pg tr2 bk kp ik ta tp ga gr va rw) := by
  show Run X (d + 5) 0 0 M_Rf_does 0 [some (.ref 44), some (.int (nI w)), none, none, none] [] _ _
  have b1 := hc.1
  have b2 := hc.2.1
  have hl12 : tr 12 = nI (pgL p) := hg.2.1
  have hl13 : tr 13 = nI (pgH p) := hg.2.2
  rcases (show w / 100 = 1 ∨ w / 100 = 2 ∨ w / 100 = 3 ∨ w / 100 = 4 ∨ (w / 100 = 0 ∨ 5 ≤ w / 100) by omega) with hq | hq | hq | hq | hq
  · have hN : doN c p w = if w / 10 % 10 < npC c ∧ w % 10 < 2 then some (tlP p (w / 10 % 10) (decide (w % 10 = 1))) else none := by rw [doN, if_pos hq]
    generalize ha : w / 10 % 10 = a at hN
    generalize hb : w % 10 = b at hN
    have hb9 : b < 10 := by omega
    have ha9 : a < 10 := by omega
    refine Run.iload_n d_Rf_does_0 rfl ?_
    refine Run.bipush (v := nI 100) d_Rf_does_1 bp_100 ?_
    first | refine Run.idiv_n d_Rf_does_3 (by omega) (by omega) (by omega) ?_ | refine Run.idiv d_Rf_does_3 (by decide +kernel) ?_
    rw [hq]
    refine Run.istore_n d_Rf_does_4 rfl rfl ?_
    show Run _ _ _ _ _ _ [_, _, _, _, _] _ _ _
    refine Run.iload_n d_Rf_does_5 rfl ?_
    refine Run.bipush (v := nI 10) d_Rf_does_6 bp_10 ?_
    first | refine Run.idiv_n d_Rf_does_8 (by omega) (by omega) (by omega) ?_ | refine Run.idiv d_Rf_does_8 (by decide +kernel) ?_
    refine Run.bipush (v := nI 10) d_Rf_does_9 bp_10 ?_
    first | refine Run.irem_n d_Rf_does_11 (by omega) (by omega) (by omega) ?_ | refine Run.irem d_Rf_does_11 (by decide +kernel) ?_
    rw [ha]
    refine Run.istore_n d_Rf_does_12 rfl rfl ?_
    show Run _ _ _ _ _ _ [_, _, _, _, _] _ _ _
    refine Run.iload_n d_Rf_does_13 rfl ?_
    refine Run.bipush (v := nI 10) d_Rf_does_14 bp_10 ?_
    first | refine Run.irem_n d_Rf_does_16 (by omega) (by omega) (by omega) ?_ | refine Run.irem d_Rf_does_16 (by decide +kernel) ?_
    rw [hb]
    refine Run.istore d_Rf_does_17 rfl rfl ?_
    show Run _ _ _ _ _ _ [_, _, _, _, _] _ _ _
    refine Run.iload_n d_Rf_does_19 rfl ?_
    refine Run.sipush (v := nI 300) d_Rf_does_20 sp_300 ?_
    first | refine Run.icmp_ne_n d_Rf_does_23 (by omega) (by omega) (fun c23 => ?_) (fun c23 => ?_) | refine Run.icmp_ne d_Rf_does_23 (fun c23 => ?_) (fun c23 => ?_)
    · refine Run.iload_n d_Rf_does_35 rfl ?_
      refine Run.iconst (v := nI 1) d_Rf_does_36 ic_1 ?_
      first | refine Run.icmp_ne_n d_Rf_does_37 (by omega) (by omega) (fun c37 => ?_) (fun c37 => ?_) | refine Run.icmp_ne d_Rf_does_37 (fun c37 => ?_) (fun c37 => ?_)
      · omega
      · refine Run.aload_n d_Rf_does_40 rfl ?_
        refine Run.iload_n d_Rf_does_41 rfl ?_
        refine Run.V1r d_Rf_does_42 lk_Rf_156 cm_Rf_noPiece iv_Rf_noPiece rfl (by first | rfl | assumption) (Nat.le_of_ble_eq_true rfl) (Nat.le_of_ble_eq_true rfl) (c_Rf_noPiece hc hr.at) ?_
        rw [inB_nI (by omega) (by omega)]
        first | refine Run.if_ne_b d_Rf_does_45 (fun c45 => ?_) (fun c45 => ?_) | refine Run.if_ne_n d_Rf_does_45 (by omega) (fun c45 => ?_) (fun c45 => ?_) | refine Run.if_ne d_Rf_does_45 (fun c45 => ?_) (fun c45 => ?_)
        · rw [Bool.not_eq_true', decide_eq_false_iff_not] at c45
          refine Run.iload_n d_Rf_does_75 rfl ?_
          refine Run.iconst (v := nI 2) d_Rf_does_76 ic_2 ?_
          first | refine Run.icmp_ne_n d_Rf_does_77 (by omega) (by omega) (fun c77 => ?_) (fun c77 => ?_) | refine Run.icmp_ne d_Rf_does_77 (fun c77 => ?_) (fun c77 => ?_)
          · refine Run.iload_n d_Rf_does_124 rfl ?_
            refine Run.iconst (v := nI 4) d_Rf_does_125 ic_4 ?_
            first | refine Run.icmp_ne_n d_Rf_does_126 (by omega) (by omega) (fun c126 => ?_) (fun c126 => ?_) | refine Run.icmp_ne d_Rf_does_126 (fun c126 => ?_) (fun c126 => ?_)
            · refine Run.iconst (v := nI 0) d_Rf_does_166 ic_0 ?_
              refine Run.iret d_Rf_does_167 rfl (by first | exact bI_nar _ | decide +kernel) ?_
              first
              | exact Or.inl ⟨by rw [hN, if_neg (fun z => c45 z.1)], rfl, rfl⟩
              | exact Or.inl ⟨by rw [hN, if_neg (fun z => by omega)], rfl, rfl⟩
            · omega
          · omega
        · rw [Bool.not_eq_false', decide_eq_true_eq] at c45
          have hT : tr a = nI (pgT p a) := (hg.1 _ c45).1
          have hT8 := (hp.2.2 _ c45).1
          refine Run.iload d_Rf_does_48 rfl ?_
          refine Run.iconst (v := nI 2) d_Rf_does_50 ic_2 ?_
          first | refine Run.icmp_ge_n d_Rf_does_51 (by omega) (by omega) (fun c51 => ?_) (fun c51 => ?_) | refine Run.icmp_ge d_Rf_does_51 (fun c51 => ?_) (fun c51 => ?_)
          · refine Run.iload_n d_Rf_does_75 rfl ?_
            refine Run.iconst (v := nI 2) d_Rf_does_76 ic_2 ?_
            first | refine Run.icmp_ne_n d_Rf_does_77 (by omega) (by omega) (fun c77 => ?_) (fun c77 => ?_) | refine Run.icmp_ne d_Rf_does_77 (fun c77 => ?_) (fun c77 => ?_)
            · refine Run.iload_n d_Rf_does_124 rfl ?_
              refine Run.iconst (v := nI 4) d_Rf_does_125 ic_4 ?_
              first | refine Run.icmp_ne_n d_Rf_does_126 (by omega) (by omega) (fun c126 => ?_) (fun c126 => ?_) | refine Run.icmp_ne d_Rf_does_126 (fun c126 => ?_) (fun c126 => ?_)
              · refine Run.iconst (v := nI 0) d_Rf_does_166 ic_0 ?_
                refine Run.iret d_Rf_does_167 rfl (by first | exact bI_nar _ | decide +kernel) ?_
                first
                | exact Or.inl ⟨by rw [hN, if_neg (fun z => c45 z.1)], rfl, rfl⟩
                | exact Or.inl ⟨by rw [hN, if_neg (fun z => by omega)], rfl, rfl⟩
              · omega
            · omega
          · refine Run.aload_n d_Rf_does_54 rfl ?_
            refine Run.getf d_Rf_does_55 fl_Rf_28 (by first | rfl | assumption) (by rfl) ?_
            refine Run.iload_n d_Rf_does_58 rfl ?_
            refine Run.iload d_Rf_does_59 rfl ?_
            refine Run.iconst (v := nI 1) d_Rf_does_61 ic_1 ?_
            first | refine Run.icmp_ne_n d_Rf_does_62 (by omega) (by omega) (fun c62 => ?_) (fun c62 => ?_) | refine Run.icmp_ne d_Rf_does_62 (fun c62 => ?_) (fun c62 => ?_)
            · refine Run.iconst (v := nI 0) d_Rf_does_69 ic_0 ?_
              first | refine Run.S3v d_Rf_does_70 lk_Rf_164 cm_Rf_goTilt st_Rf_goTilt (Nat.le_of_ble_eq_true rfl) (Nat.le_of_ble_eq_true rfl) (q_Rf_goTilt (k := 50) (b := true) rfl (by omega) hT hT8) ?_ | refine Run.S3v d_Rf_does_70 lk_Rf_164 cm_Rf_goTilt st_Rf_goTilt (Nat.le_of_ble_eq_true rfl) (Nat.le_of_ble_eq_true rfl) (q_Rf_goTilt (k := 50) (b := false) rfl (by omega) hT hT8) ?_
              refine Run.iconst (v := nI 1) d_Rf_does_73 ic_1 ?_
              refine Run.iret d_Rf_does_74 rfl (by first | exact bI_nar _ | decide +kernel) ?_
              first
              | (refine Or.inr ⟨_, upd tr a (nI (tiN (pgT p a) true)), by rw [hN, if_pos ⟨c45, c51⟩], ?_, rfl, rfl⟩; rw [decide_eq_true c62]; exact hg.tilt b2 c45)
              | (refine Or.inr ⟨_, upd tr a (nI (tiN (pgT p a) false)), by rw [hN, if_pos ⟨c45, c51⟩], ?_, rfl, rfl⟩; rw [decide_eq_false c62]; exact hg.tilt b2 c45)
            · refine Run.iconst (v := nI 1) d_Rf_does_65 ic_1 ?_
              refine Run.goto d_Rf_does_66 ?_
              first | refine Run.S3v d_Rf_does_70 lk_Rf_164 cm_Rf_goTilt st_Rf_goTilt (Nat.le_of_ble_eq_true rfl) (Nat.le_of_ble_eq_true rfl) (q_Rf_goTilt (k := 50) (b := true) rfl (by omega) hT hT8) ?_ | refine Run.S3v d_Rf_does_70 lk_Rf_164 cm_Rf_goTilt st_Rf_goTilt (Nat.le_of_ble_eq_true rfl) (Nat.le_of_ble_eq_true rfl) (q_Rf_goTilt (k := 50) (b := false) rfl (by omega) hT hT8) ?_
              refine Run.iconst (v := nI 1) d_Rf_does_73 ic_1 ?_
              refine Run.iret d_Rf_does_74 rfl (by first | exact bI_nar _ | decide +kernel) ?_
              first
              | (refine Or.inr ⟨_, upd tr a (nI (tiN (pgT p a) true)), by rw [hN, if_pos ⟨c45, c51⟩], ?_, rfl, rfl⟩; rw [decide_eq_true c62]; exact hg.tilt b2 c45)
              | (refine Or.inr ⟨_, upd tr a (nI (tiN (pgT p a) false)), by rw [hN, if_pos ⟨c45, c51⟩], ?_, rfl, rfl⟩; rw [decide_eq_false c62]; exact hg.tilt b2 c45)
    · omega
  · have hN : doN c p w = if w / 10 % 10 < npC c ∧ w % 10 < nhC c ∧ ¬ pgW p (w / 10 % 10) = w % 10 then some (gvP p (w / 10 % 10) (w % 10)) else none := by rw [doN, if_neg (by omega), if_pos hq]
    generalize ha : w / 10 % 10 = a at hN
    generalize hb : w % 10 = b at hN
    have hb9 : b < 10 := by omega
    have ha9 : a < 10 := by omega
    refine Run.iload_n d_Rf_does_0 rfl ?_
    refine Run.bipush (v := nI 100) d_Rf_does_1 bp_100 ?_
    first | refine Run.idiv_n d_Rf_does_3 (by omega) (by omega) (by omega) ?_ | refine Run.idiv d_Rf_does_3 (by decide +kernel) ?_
    rw [hq]
    refine Run.istore_n d_Rf_does_4 rfl rfl ?_
    show Run _ _ _ _ _ _ [_, _, _, _, _] _ _ _
    refine Run.iload_n d_Rf_does_5 rfl ?_
    refine Run.bipush (v := nI 10) d_Rf_does_6 bp_10 ?_
    first | refine Run.idiv_n d_Rf_does_8 (by omega) (by omega) (by omega) ?_ | refine Run.idiv d_Rf_does_8 (by decide +kernel) ?_
    refine Run.bipush (v := nI 10) d_Rf_does_9 bp_10 ?_
    first | refine Run.irem_n d_Rf_does_11 (by omega) (by omega) (by omega) ?_ | refine Run.irem d_Rf_does_11 (by decide +kernel) ?_
    rw [ha]
    refine Run.istore_n d_Rf_does_12 rfl rfl ?_
    show Run _ _ _ _ _ _ [_, _, _, _, _] _ _ _
    refine Run.iload_n d_Rf_does_13 rfl ?_
    refine Run.bipush (v := nI 10) d_Rf_does_14 bp_10 ?_
    first | refine Run.irem_n d_Rf_does_16 (by omega) (by omega) (by omega) ?_ | refine Run.irem d_Rf_does_16 (by decide +kernel) ?_
    rw [hb]
    refine Run.istore d_Rf_does_17 rfl rfl ?_
    show Run _ _ _ _ _ _ [_, _, _, _, _] _ _ _
    refine Run.iload_n d_Rf_does_19 rfl ?_
    refine Run.sipush (v := nI 300) d_Rf_does_20 sp_300 ?_
    first | refine Run.icmp_ne_n d_Rf_does_23 (by omega) (by omega) (fun c23 => ?_) (fun c23 => ?_) | refine Run.icmp_ne d_Rf_does_23 (fun c23 => ?_) (fun c23 => ?_)
    · refine Run.iload_n d_Rf_does_35 rfl ?_
      refine Run.iconst (v := nI 1) d_Rf_does_36 ic_1 ?_
      first | refine Run.icmp_ne_n d_Rf_does_37 (by omega) (by omega) (fun c37 => ?_) (fun c37 => ?_) | refine Run.icmp_ne d_Rf_does_37 (fun c37 => ?_) (fun c37 => ?_)
      · refine Run.iload_n d_Rf_does_75 rfl ?_
        refine Run.iconst (v := nI 2) d_Rf_does_76 ic_2 ?_
        first | refine Run.icmp_ne_n d_Rf_does_77 (by omega) (by omega) (fun c77 => ?_) (fun c77 => ?_) | refine Run.icmp_ne d_Rf_does_77 (fun c77 => ?_) (fun c77 => ?_)
        · omega
        · refine Run.aload_n d_Rf_does_80 rfl ?_
          refine Run.iload_n d_Rf_does_81 rfl ?_
          refine Run.V1r d_Rf_does_82 lk_Rf_156 cm_Rf_noPiece iv_Rf_noPiece rfl (by first | rfl | assumption) (Nat.le_of_ble_eq_true rfl) (Nat.le_of_ble_eq_true rfl) (c_Rf_noPiece hc hr.at) ?_
          rw [inB_nI (by omega) (by omega)]
          first | refine Run.if_ne_b d_Rf_does_85 (fun c85 => ?_) (fun c85 => ?_) | refine Run.if_ne_n d_Rf_does_85 (by omega) (fun c85 => ?_) (fun c85 => ?_) | refine Run.if_ne d_Rf_does_85 (fun c85 => ?_) (fun c85 => ?_)
          · rw [Bool.not_eq_true', decide_eq_false_iff_not] at c85
            refine Run.iload_n d_Rf_does_124 rfl ?_
            refine Run.iconst (v := nI 4) d_Rf_does_125 ic_4 ?_
            first | refine Run.icmp_ne_n d_Rf_does_126 (by omega) (by omega) (fun c126 => ?_) (fun c126 => ?_) | refine Run.icmp_ne d_Rf_does_126 (fun c126 => ?_) (fun c126 => ?_)
            · refine Run.iconst (v := nI 0) d_Rf_does_166 ic_0 ?_
              refine Run.iret d_Rf_does_167 rfl (by first | exact bI_nar _ | decide +kernel) ?_
              first
              | exact Or.inl ⟨by rw [hN, if_neg (fun z => c85 z.1)], rfl, rfl⟩
              | exact Or.inl ⟨by rw [hN, if_neg (fun z => c94 z.2.1)], rfl, rfl⟩
              | exact Or.inl ⟨by rw [hN, if_neg (fun z => z.2.2 c108)], rfl, rfl⟩
            · omega
          · rw [Bool.not_eq_false', decide_eq_true_eq] at c85
            have hW : tr (6 + a) = nI (pgW p a) := (hg.1 _ c85).2
            have hW4 := (hp.2.2 _ c85).2
            refine Run.aload_n d_Rf_does_88 rfl ?_
            refine Run.iload d_Rf_does_89 rfl ?_
            refine Run.V1r d_Rf_does_91 lk_Rf_149 cm_Rf_noHolder iv_Rf_noHolder rfl (by first | rfl | assumption) (Nat.le_of_ble_eq_true rfl) (Nat.le_of_ble_eq_true rfl) (c_Rf_noHolder hc hr.at) ?_
            rw [inB_nI (by omega) (by omega)]
            first | refine Run.if_ne_b d_Rf_does_94 (fun c94 => ?_) (fun c94 => ?_) | refine Run.if_ne_n d_Rf_does_94 (by omega) (fun c94 => ?_) (fun c94 => ?_) | refine Run.if_ne d_Rf_does_94 (fun c94 => ?_) (fun c94 => ?_)
            · rw [Bool.not_eq_true', decide_eq_false_iff_not] at c94
              refine Run.iload_n d_Rf_does_124 rfl ?_
              refine Run.iconst (v := nI 4) d_Rf_does_125 ic_4 ?_
              first | refine Run.icmp_ne_n d_Rf_does_126 (by omega) (by omega) (fun c126 => ?_) (fun c126 => ?_) | refine Run.icmp_ne d_Rf_does_126 (fun c126 => ?_) (fun c126 => ?_)
              · refine Run.iconst (v := nI 0) d_Rf_does_166 ic_0 ?_
                refine Run.iret d_Rf_does_167 rfl (by first | exact bI_nar _ | decide +kernel) ?_
                first
                | exact Or.inl ⟨by rw [hN, if_neg (fun z => c85 z.1)], rfl, rfl⟩
                | exact Or.inl ⟨by rw [hN, if_neg (fun z => c94 z.2.1)], rfl, rfl⟩
                | exact Or.inl ⟨by rw [hN, if_neg (fun z => z.2.2 c108)], rfl, rfl⟩
              · omega
            · rw [Bool.not_eq_false', decide_eq_true_eq] at c94
              refine Run.aload_n d_Rf_does_97 rfl ?_
              refine Run.getf d_Rf_does_98 fl_Rf_28 (by first | rfl | assumption) (by rfl) ?_
              refine Run.bipush (v := nI 6) d_Rf_does_101 bp_6 ?_
              refine Run.iload_n d_Rf_does_103 rfl ?_
              first | refine Run.iadd_n d_Rf_does_104 ?_ | refine Run.iadd d_Rf_does_104 ?_
              refine Run.iald_n d_Rf_does_105 (by first | rfl | assumption) (by omega) (by omega) ?_
              rw [hW]
              refine Run.iload d_Rf_does_106 rfl ?_
              first | refine Run.icmp_eq_n d_Rf_does_108 (by omega) (by omega) (fun c108 => ?_) (fun c108 => ?_) | refine Run.icmp_eq d_Rf_does_108 (fun c108 => ?_) (fun c108 => ?_)
              · refine Run.iload_n d_Rf_does_124 rfl ?_
                refine Run.iconst (v := nI 4) d_Rf_does_125 ic_4 ?_
                first | refine Run.icmp_ne_n d_Rf_does_126 (by omega) (by omega) (fun c126 => ?_) (fun c126 => ?_) | refine Run.icmp_ne d_Rf_does_126 (fun c126 => ?_) (fun c126 => ?_)
                · refine Run.iconst (v := nI 0) d_Rf_does_166 ic_0 ?_
                  refine Run.iret d_Rf_does_167 rfl (by first | exact bI_nar _ | decide +kernel) ?_
                  first
                  | exact Or.inl ⟨by rw [hN, if_neg (fun z => c85 z.1)], rfl, rfl⟩
                  | exact Or.inl ⟨by rw [hN, if_neg (fun z => c94 z.2.1)], rfl, rfl⟩
                  | exact Or.inl ⟨by rw [hN, if_neg (fun z => z.2.2 c108)], rfl, rfl⟩
                · omega
              · refine Run.aload_n d_Rf_does_111 rfl ?_
                refine Run.getf d_Rf_does_112 fl_Rf_28 (by first | rfl | assumption) (by rfl) ?_
                refine Run.bipush (v := nI 6) d_Rf_does_115 bp_6 ?_
                refine Run.iload_n d_Rf_does_117 rfl ?_
                first | refine Run.iadd_n d_Rf_does_118 ?_ | refine Run.iadd d_Rf_does_118 ?_
                refine Run.iload d_Rf_does_119 rfl ?_
                refine Run.iast_n d_Rf_does_121 (by first | rfl | assumption) (by omega) (by omega) ?_
                refine Run.iconst (v := nI 1) d_Rf_does_122 ic_1 ?_
                refine Run.iret d_Rf_does_123 rfl (by first | exact bI_nar _ | decide +kernel) ?_
                exact Or.inr ⟨_, upd tr (6 + a) (nI b), by rw [hN, if_pos ⟨c85, c94, c108⟩], hg.give b2 c85, rfl, rfl⟩
      · omega
    · omega
  · have hN : doN c p w = if w / 10 % 10 = 0 ∧ w % 10 = 0 then some (hourN p 1) else none := by rw [doN, if_neg (by omega), if_neg (by omega), if_pos hq]
    refine Run.iload_n d_Rf_does_0 rfl ?_
    refine Run.bipush (v := nI 100) d_Rf_does_1 bp_100 ?_
    first | refine Run.idiv_n d_Rf_does_3 (by omega) (by omega) (by omega) ?_ | refine Run.idiv d_Rf_does_3 (by decide +kernel) ?_
    rw [hq]
    refine Run.istore_n d_Rf_does_4 rfl rfl ?_
    show Run _ _ _ _ _ _ [_, _, _, _, _] _ _ _
    refine Run.iload_n d_Rf_does_5 rfl ?_
    refine Run.bipush (v := nI 10) d_Rf_does_6 bp_10 ?_
    first | refine Run.idiv_n d_Rf_does_8 (by omega) (by omega) (by omega) ?_ | refine Run.idiv d_Rf_does_8 (by decide +kernel) ?_
    refine Run.bipush (v := nI 10) d_Rf_does_9 bp_10 ?_
    first | refine Run.irem_n d_Rf_does_11 (by omega) (by omega) (by omega) ?_ | refine Run.irem d_Rf_does_11 (by decide +kernel) ?_
    refine Run.istore_n d_Rf_does_12 rfl rfl ?_
    show Run _ _ _ _ _ _ [_, _, _, _, _] _ _ _
    refine Run.iload_n d_Rf_does_13 rfl ?_
    refine Run.bipush (v := nI 10) d_Rf_does_14 bp_10 ?_
    first | refine Run.irem_n d_Rf_does_16 (by omega) (by omega) (by omega) ?_ | refine Run.irem d_Rf_does_16 (by decide +kernel) ?_
    refine Run.istore d_Rf_does_17 rfl rfl ?_
    show Run _ _ _ _ _ _ [_, _, _, _, _] _ _ _
    refine Run.iload_n d_Rf_does_19 rfl ?_
    refine Run.sipush (v := nI 300) d_Rf_does_20 sp_300 ?_
    first | refine Run.icmp_ne_n d_Rf_does_23 (by omega) (by omega) (fun c23 => ?_) (fun c23 => ?_) | refine Run.icmp_ne d_Rf_does_23 (fun c23 => ?_) (fun c23 => ?_)
    · refine Run.iload_n d_Rf_does_35 rfl ?_
      refine Run.iconst (v := nI 1) d_Rf_does_36 ic_1 ?_
      first | refine Run.icmp_ne_n d_Rf_does_37 (by omega) (by omega) (fun c37 => ?_) (fun c37 => ?_) | refine Run.icmp_ne d_Rf_does_37 (fun c37 => ?_) (fun c37 => ?_)
      · refine Run.iload_n d_Rf_does_75 rfl ?_
        refine Run.iconst (v := nI 2) d_Rf_does_76 ic_2 ?_
        first | refine Run.icmp_ne_n d_Rf_does_77 (by omega) (by omega) (fun c77 => ?_) (fun c77 => ?_) | refine Run.icmp_ne d_Rf_does_77 (fun c77 => ?_) (fun c77 => ?_)
        · refine Run.iload_n d_Rf_does_124 rfl ?_
          refine Run.iconst (v := nI 4) d_Rf_does_125 ic_4 ?_
          first | refine Run.icmp_ne_n d_Rf_does_126 (by omega) (by omega) (fun c126 => ?_) (fun c126 => ?_) | refine Run.icmp_ne d_Rf_does_126 (fun c126 => ?_) (fun c126 => ?_)
          · refine Run.iconst (v := nI 0) d_Rf_does_166 ic_0 ?_
            refine Run.iret d_Rf_does_167 rfl (by first | exact bI_nar _ | decide +kernel) ?_
            exact Or.inl ⟨by rw [hN, if_neg (fun z => by omega)], rfl, rfl⟩
          · omega
        · omega
      · omega
    · refine Run.aload_n d_Rf_does_26 rfl ?_
      refine Run.getf d_Rf_does_27 fl_Rf_28 (by first | rfl | assumption) (by rfl) ?_
      refine Run.S1v d_Rf_does_30 lk_Rf_168 cm_Rf_goHour st_Rf_goHour (Nat.le_of_ble_eq_true rfl) (Nat.le_of_ble_eq_true rfl) (q_Rf_goHour (k := 50) rfl hl12 hl13 hp.1) ?_
      refine Run.iconst (v := nI 1) d_Rf_does_33 ic_1 ?_
      refine Run.iret d_Rf_does_34 rfl (by first | exact bI_nar _ | decide +kernel) ?_
      exact Or.inr ⟨_, _, by rw [hN, if_pos ⟨by omega, by omega⟩], hg.hour b2, rfl, rfl⟩
  · have hN : doN c p w = if w / 10 % 10 < nhC c ∧ w % 10 < 5 ∧ (seenN c p (w / 10 % 10)).testBit (w % 10) = true then some p else none := by rw [doN, if_neg (by omega), if_neg (by omega), if_neg (by omega), if_pos hq]
    generalize ha : w / 10 % 10 = a at hN
    generalize hb : w % 10 = b at hN
    have hb9 : b < 10 := by omega
    have ha9 : a < 10 := by omega
    have w1 := seenN_lt hc p a
    refine Run.iload_n d_Rf_does_0 rfl ?_
    refine Run.bipush (v := nI 100) d_Rf_does_1 bp_100 ?_
    first | refine Run.idiv_n d_Rf_does_3 (by omega) (by omega) (by omega) ?_ | refine Run.idiv d_Rf_does_3 (by decide +kernel) ?_
    rw [hq]
    refine Run.istore_n d_Rf_does_4 rfl rfl ?_
    show Run _ _ _ _ _ _ [_, _, _, _, _] _ _ _
    refine Run.iload_n d_Rf_does_5 rfl ?_
    refine Run.bipush (v := nI 10) d_Rf_does_6 bp_10 ?_
    first | refine Run.idiv_n d_Rf_does_8 (by omega) (by omega) (by omega) ?_ | refine Run.idiv d_Rf_does_8 (by decide +kernel) ?_
    refine Run.bipush (v := nI 10) d_Rf_does_9 bp_10 ?_
    first | refine Run.irem_n d_Rf_does_11 (by omega) (by omega) (by omega) ?_ | refine Run.irem d_Rf_does_11 (by decide +kernel) ?_
    rw [ha]
    refine Run.istore_n d_Rf_does_12 rfl rfl ?_
    show Run _ _ _ _ _ _ [_, _, _, _, _] _ _ _
    refine Run.iload_n d_Rf_does_13 rfl ?_
    refine Run.bipush (v := nI 10) d_Rf_does_14 bp_10 ?_
    first | refine Run.irem_n d_Rf_does_16 (by omega) (by omega) (by omega) ?_ | refine Run.irem d_Rf_does_16 (by decide +kernel) ?_
    rw [hb]
    refine Run.istore d_Rf_does_17 rfl rfl ?_
    show Run _ _ _ _ _ _ [_, _, _, _, _] _ _ _
    refine Run.iload_n d_Rf_does_19 rfl ?_
    refine Run.sipush (v := nI 300) d_Rf_does_20 sp_300 ?_
    first | refine Run.icmp_ne_n d_Rf_does_23 (by omega) (by omega) (fun c23 => ?_) (fun c23 => ?_) | refine Run.icmp_ne d_Rf_does_23 (fun c23 => ?_) (fun c23 => ?_)
    · refine Run.iload_n d_Rf_does_35 rfl ?_
      refine Run.iconst (v := nI 1) d_Rf_does_36 ic_1 ?_
      first | refine Run.icmp_ne_n d_Rf_does_37 (by omega) (by omega) (fun c37 => ?_) (fun c37 => ?_) | refine Run.icmp_ne d_Rf_does_37 (fun c37 => ?_) (fun c37 => ?_)
      · refine Run.iload_n d_Rf_does_75 rfl ?_
        refine Run.iconst (v := nI 2) d_Rf_does_76 ic_2 ?_
        first | refine Run.icmp_ne_n d_Rf_does_77 (by omega) (by omega) (fun c77 => ?_) (fun c77 => ?_) | refine Run.icmp_ne d_Rf_does_77 (fun c77 => ?_) (fun c77 => ?_)
        · refine Run.iload_n d_Rf_does_124 rfl ?_
          refine Run.iconst (v := nI 4) d_Rf_does_125 ic_4 ?_
          first | refine Run.icmp_ne_n d_Rf_does_126 (by omega) (by omega) (fun c126 => ?_) (fun c126 => ?_) | refine Run.icmp_ne d_Rf_does_126 (fun c126 => ?_) (fun c126 => ?_)
          · omega
          · refine Run.aload_n d_Rf_does_129 rfl ?_
            refine Run.iload_n d_Rf_does_130 rfl ?_
            refine Run.V1r d_Rf_does_131 lk_Rf_149 cm_Rf_noHolder iv_Rf_noHolder rfl (by first | rfl | assumption) (Nat.le_of_ble_eq_true rfl) (Nat.le_of_ble_eq_true rfl) (c_Rf_noHolder hc hr.at) ?_
            rw [inB_nI (by omega) (by omega)]
            first | refine Run.if_ne_b d_Rf_does_134 (fun c134 => ?_) (fun c134 => ?_) | refine Run.if_ne_n d_Rf_does_134 (by omega) (fun c134 => ?_) (fun c134 => ?_) | refine Run.if_ne d_Rf_does_134 (fun c134 => ?_) (fun c134 => ?_)
            · rw [Bool.not_eq_true', decide_eq_false_iff_not] at c134
              refine Run.iconst (v := nI 0) d_Rf_does_166 ic_0 ?_
              refine Run.iret d_Rf_does_167 rfl (by first | exact bI_nar _ | decide +kernel) ?_
              first
              | exact Or.inl ⟨by rw [hN, if_neg (fun z => c134 z.1)], rfl, rfl⟩
              | exact Or.inl ⟨by rw [hN, if_neg (fun z => by omega)], rfl, rfl⟩
              | exact Or.inl ⟨by rw [hN, if_neg (fun z => by rw [c159] at z; cases z.2.2)], rfl, rfl⟩
              | exact Or.inr ⟨p, tr, by rw [hN, if_pos ⟨c134, c140, c159⟩], hg, rfl, rfl⟩
            · rw [Bool.not_eq_false', decide_eq_true_eq] at c134
              refine Run.iload d_Rf_does_137 rfl ?_
              refine Run.iconst (v := nI 5) d_Rf_does_139 ic_5 ?_
              first | refine Run.icmp_ge_n d_Rf_does_140 (by omega) (by omega) (fun c140 => ?_) (fun c140 => ?_) | refine Run.icmp_ge d_Rf_does_140 (fun c140 => ?_) (fun c140 => ?_)
              · refine Run.iconst (v := nI 0) d_Rf_does_166 ic_0 ?_
                refine Run.iret d_Rf_does_167 rfl (by first | exact bI_nar _ | decide +kernel) ?_
                first
                | exact Or.inl ⟨by rw [hN, if_neg (fun z => c134 z.1)], rfl, rfl⟩
                | exact Or.inl ⟨by rw [hN, if_neg (fun z => by omega)], rfl, rfl⟩
                | exact Or.inl ⟨by rw [hN, if_neg (fun z => by rw [c159] at z; cases z.2.2)], rfl, rfl⟩
                | exact Or.inr ⟨p, tr, by rw [hN, if_pos ⟨c134, c140, c159⟩], hg, rfl, rfl⟩
              · refine Run.aload_n d_Rf_does_143 rfl ?_
                refine Run.aload_n d_Rf_does_144 rfl ?_
                refine Run.getf d_Rf_does_145 fl_Rf_28 (by first | rfl | assumption) (by rfl) ?_
                refine Run.iload_n d_Rf_does_148 rfl ?_
                refine Run.bipush (v := nI 63) d_Rf_does_149 bp_63 ?_
                refine Run.V3r d_Rf_does_151 lk_Rf_135 cm_Rf_seesOf iv_Rf_seesOf rfl (by first | rfl | assumption) (Nat.le_of_ble_eq_true rfl) (Nat.le_of_ble_eq_true rfl) (c_Rf_seesOf hc hp hr.at hg.a50 (by omega) (by omega)) ?_
                rw [sesN_63 b2]
                refine Run.iload d_Rf_does_154 rfl ?_
                refine Run.S2r d_Rf_does_156 lk_Rf_127 cm_Rf_has st_Rf_has (Nat.le_of_ble_eq_true rfl) (Nat.le_of_ble_eq_true rfl) (c_Rf_has (by omega) (by omega)) ?_
                first | refine Run.if_eq_b d_Rf_does_159 (fun c159 => ?_) (fun c159 => ?_) | refine Run.if_eq_n d_Rf_does_159 (by omega) (fun c159 => ?_) (fun c159 => ?_) | refine Run.if_eq d_Rf_does_159 (fun c159 => ?_) (fun c159 => ?_)
                · refine Run.iconst (v := nI 0) d_Rf_does_166 ic_0 ?_
                  refine Run.iret d_Rf_does_167 rfl (by first | exact bI_nar _ | decide +kernel) ?_
                  first
                  | exact Or.inl ⟨by rw [hN, if_neg (fun z => c134 z.1)], rfl, rfl⟩
                  | exact Or.inl ⟨by rw [hN, if_neg (fun z => by omega)], rfl, rfl⟩
                  | exact Or.inl ⟨by rw [hN, if_neg (fun z => by rw [c159] at z; cases z.2.2)], rfl, rfl⟩
                  | exact Or.inr ⟨p, tr, by rw [hN, if_pos ⟨c134, c140, c159⟩], hg, rfl, rfl⟩
                · refine Run.iconst (v := nI 1) d_Rf_does_162 ic_1 ?_
                  refine Run.goto d_Rf_does_163 ?_
                  refine Run.iret d_Rf_does_167 rfl (by first | exact bI_nar _ | decide +kernel) ?_
                  first
                  | exact Or.inl ⟨by rw [hN, if_neg (fun z => c134 z.1)], rfl, rfl⟩
                  | exact Or.inl ⟨by rw [hN, if_neg (fun z => by omega)], rfl, rfl⟩
                  | exact Or.inl ⟨by rw [hN, if_neg (fun z => by rw [c159] at z; cases z.2.2)], rfl, rfl⟩
                  | exact Or.inr ⟨p, tr, by rw [hN, if_pos ⟨c134, c140, c159⟩], hg, rfl, rfl⟩
        · omega
      · omega
    · omega
  · have hN : doN c p w = none := by rw [doN, if_neg (by omega), if_neg (by omega), if_neg (by omega), if_neg (by omega)]
    generalize hv : w / 100 = v at hq
    refine Run.iload_n d_Rf_does_0 rfl ?_
    refine Run.bipush (v := nI 100) d_Rf_does_1 bp_100 ?_
    first | refine Run.idiv_n d_Rf_does_3 (by omega) (by omega) (by omega) ?_ | refine Run.idiv d_Rf_does_3 (by decide +kernel) ?_
    rw [hv]
    refine Run.istore_n d_Rf_does_4 rfl rfl ?_
    show Run _ _ _ _ _ _ [_, _, _, _, _] _ _ _
    refine Run.iload_n d_Rf_does_5 rfl ?_
    refine Run.bipush (v := nI 10) d_Rf_does_6 bp_10 ?_
    first | refine Run.idiv_n d_Rf_does_8 (by omega) (by omega) (by omega) ?_ | refine Run.idiv d_Rf_does_8 (by decide +kernel) ?_
    refine Run.bipush (v := nI 10) d_Rf_does_9 bp_10 ?_
    first | refine Run.irem_n d_Rf_does_11 (by omega) (by omega) (by omega) ?_ | refine Run.irem d_Rf_does_11 (by decide +kernel) ?_
    refine Run.istore_n d_Rf_does_12 rfl rfl ?_
    show Run _ _ _ _ _ _ [_, _, _, _, _] _ _ _
    refine Run.iload_n d_Rf_does_13 rfl ?_
    refine Run.bipush (v := nI 10) d_Rf_does_14 bp_10 ?_
    first | refine Run.irem_n d_Rf_does_16 (by omega) (by omega) (by omega) ?_ | refine Run.irem d_Rf_does_16 (by decide +kernel) ?_
    refine Run.istore d_Rf_does_17 rfl rfl ?_
    show Run _ _ _ _ _ _ [_, _, _, _, _] _ _ _
    refine Run.iload_n d_Rf_does_19 rfl ?_
    refine Run.sipush (v := nI 300) d_Rf_does_20 sp_300 ?_
    first | refine Run.icmp_ne_n d_Rf_does_23 (by omega) (by omega) (fun c23 => ?_) (fun c23 => ?_) | refine Run.icmp_ne d_Rf_does_23 (fun c23 => ?_) (fun c23 => ?_)
    · refine Run.iload_n d_Rf_does_35 rfl ?_
      refine Run.iconst (v := nI 1) d_Rf_does_36 ic_1 ?_
      first | refine Run.icmp_ne_n d_Rf_does_37 (by omega) (by omega) (fun c37 => ?_) (fun c37 => ?_) | refine Run.icmp_ne d_Rf_does_37 (fun c37 => ?_) (fun c37 => ?_)
      · refine Run.iload_n d_Rf_does_75 rfl ?_
        refine Run.iconst (v := nI 2) d_Rf_does_76 ic_2 ?_
        first | refine Run.icmp_ne_n d_Rf_does_77 (by omega) (by omega) (fun c77 => ?_) (fun c77 => ?_) | refine Run.icmp_ne d_Rf_does_77 (fun c77 => ?_) (fun c77 => ?_)
        · refine Run.iload_n d_Rf_does_124 rfl ?_
          refine Run.iconst (v := nI 4) d_Rf_does_125 ic_4 ?_
          first | refine Run.icmp_ne_n d_Rf_does_126 (by omega) (by omega) (fun c126 => ?_) (fun c126 => ?_) | refine Run.icmp_ne d_Rf_does_126 (fun c126 => ?_) (fun c126 => ?_)
          · refine Run.iconst (v := nI 0) d_Rf_does_166 ic_0 ?_
            refine Run.iret d_Rf_does_167 rfl (by first | exact bI_nar _ | decide +kernel) ?_
            exact Or.inl ⟨hN, rfl, rfl⟩
          · omega
        · omega
      · omega
    · omega
theorem c_Rf_longPower {a n : Nat} {h : AH} (hn : n < 100) : Call X d 0 0 M_Rf_longPower [.long (lN a), .int (nI n)] h (Ret (.long (lN (a ^ n))) h) := by
  show Run X d 0 0 M_Rf_longPower 0 [some (.long (lN a)), none, some (.int (nI n)), none, none, none] [] h _
  refine Run.lconst (v := 1) d_Rf_longPower_0 rfl ?_
  refine Run.lstore_n d_Rf_longPower_1 rfl rfl ?_
  show Run _ _ _ _ _ _ [_, _, _, _, _, _] _ _ _
  refine Run.iconst (v := nI 0) d_Rf_longPower_2 ic_0 ?_
  refine Run.istore d_Rf_longPower_3 rfl rfl ?_
  show Run _ _ _ _ _ _ [_, _, _, _, _, _] _ _ _
  refine upto n (fun i => Run X d 0 0 M_Rf_longPower 5 [some (.long (lN a)), none, some (.int (nI n)), some (.long (lN (a ^ i))), none, some (.int (nI i))] [] h (Ret (.long (lN (a ^ n))) h)) ?_ 0 (Nat.zero_le _)
  intro i hi ih
  refine Run.iload d_Rf_longPower_5 rfl ?_
  refine Run.iload_n d_Rf_longPower_7 rfl ?_
  first | refine Run.icmp_ge_n d_Rf_longPower_8 (by omega) (by omega) (fun c8 => ?_) (fun c8 => ?_) | refine Run.icmp_ge d_Rf_longPower_8 (fun c8 => ?_) (fun c8 => ?_)
  · refine Run.lload_n d_Rf_longPower_21 rfl ?_
    refine Run.lret d_Rf_longPower_22 rfl ?_
    exact ⟨by rw [show i = n by omega], rfl⟩
  · refine Run.lload_n d_Rf_longPower_11 rfl ?_
    refine Run.lload_n d_Rf_longPower_12 rfl ?_
    refine Run.lmul d_Rf_longPower_13 ?_
    rw [lN_mul]
    refine Run.lstore_n d_Rf_longPower_14 rfl rfl ?_
    show Run _ _ _ _ _ _ [_, _, _, _, _, _] _ _ _
    first | refine Run.iinc_n d_Rf_longPower_15 ic_1 rfl rfl ?_ | refine Run.iinc d_Rf_longPower_15 rfl rfl rfl ?_
    show Run _ _ _ _ _ _ [_, _, _, _, _, _] _ _ _
    refine Run.goto d_Rf_longPower_18 ?_
    exact ih c8
theorem r_rjudge44 {n r0 : Nat} (hn : n ≤ 4) (hr0 : r0 < 2 ^ 63) (hc : coOK c) (hp : pgOK c p) (hh : pgH p ≤ 800) (hr : RfR c nu.2.2.1 nu.2.2.2.1 ho pi) (hg : PgV c p tr) : Run X (d + 6) 0 0 M_Rf_judge 44 [some (.ref 44), some (.int (nI n)), some (.long (lN r0)), none, some (.int (nI 0))] [] (PX f0 ++ hM nu tx ho pi rh rp pg tr bk kp ik ta tp ga gr va rw) (fun r h2 => r = some (.int (oI (fstN (jgF c (digN r0 n) p) n))) ∧ ∃ tr2, h2 = PX f0 ++ hM nu tx ho pi rh rp pg tr2 bk kp ik ta tp ga gr va rw) := by
  refine upto n (fun k => ∀ (q : PG) (tr2 : FI), jgI c (digN r0 n) p k = some q → fstN (jgF c (digN r0 n) p) k = none → PgV c q tr2 → pgOK c q → pgH q ≤ pgH p + k → Run X (d + 6) 0 0 M_Rf_judge 44 [some (.ref 44), some (.int (nI n)), some (.long (lN r0)), none, some (.int (nI k))] [] (PX f0 ++ hM nu tx ho pi rh rp pg tr2 bk kp ik ta tp ga gr va rw) (fun r h2 => r = some (.int (oI (fstN (jgF c (digN r0 n) p) n))) ∧ ∃ tr2, h2 = PX f0 ++ hM nu tx ho pi rh rp pg tr2 bk kp ik ta tp ga gr va rw)) ?_ 0 (Nat.zero_le _) p tr rfl rfl hg hp (Nat.le_refl _)
  intro k hk ih q tr2 hq hfn hg2 hp2 hh2
  have hJ := jg_s hq
  have hA : k < n → doN c q (digN r0 n k) = none → Run X (d + 6) 0 0 M_Rf_judge 73 [some (.ref 44), some (.int (nI n)), some (.long (lN r0)), none, some (.int (nI k))] [.int (bI false)] (PX f0 ++ hM nu tx ho pi rh rp pg tr2 bk kp ik ta tp ga gr va rw) (fun r h2 => r = some (.int (oI (fstN (jgF c (digN r0 n) p) n))) ∧ ∃ tr2, h2 = PX f0 ++ hM nu tx ho pi rh rp pg tr2 bk kp ik ta tp ga gr va rw) := by
    intro c87 hD
    have hb : jgF c (digN r0 n) p k = true := by rw [jgF, hJ, hD]; rfl
    first | refine Run.if_ne_b d_Rf_judge_73 (fun c73 => ?_) (fun c73 => ?_) | refine Run.if_ne_n d_Rf_judge_73 (by omega) (fun c73 => ?_) (fun c73 => ?_) | refine Run.if_ne d_Rf_judge_73 (fun c73 => ?_) (fun c73 => ?_)
    · cases c73
    · refine Run.iload d_Rf_judge_76 rfl ?_
      refine Run.iret d_Rf_judge_78 rfl rfl ?_
      exact ⟨by rw [fstN_s hfn hb n c87]; rfl, tr2, rfl⟩
  have hB : k < n → ∀ p3 tr3, doN c q (digN r0 n k) = some p3 → PgV c p3 tr3 → Run X (d + 6) 0 0 M_Rf_judge 73 [some (.ref 44), some (.int (nI n)), some (.long (lN r0)), none, some (.int (nI k))] [.int (bI true)] (PX f0 ++ hM nu tx ho pi rh rp pg tr3 bk kp ik ta tp ga gr va rw) (fun r h2 => r = some (.int (oI (fstN (jgF c (digN r0 n) p) n))) ∧ ∃ tr2, h2 = PX f0 ++ hM nu tx ho pi rh rp pg tr2 bk kp ik ta tp ga gr va rw) := by
    intro c87 p3 tr3 hD hs3
    have hb : jgF c (digN r0 n) p k = false := by rw [jgF, hJ, hD]; rfl
    have hk3 := do_ok hp2 (by omega) hD
    first | refine Run.if_ne_b d_Rf_judge_73 (fun c73 => ?_) (fun c73 => ?_) | refine Run.if_ne_n d_Rf_judge_73 (by omega) (fun c73 => ?_) (fun c73 => ?_) | refine Run.if_ne d_Rf_judge_73 (fun c73 => ?_) (fun c73 => ?_)
    · first | refine Run.iinc_n d_Rf_judge_79 ic_1 rfl rfl ?_ | refine Run.iinc d_Rf_judge_79 rfl rfl rfl ?_
      show Run _ _ _ _ _ _ [_, _, _, _, _] _ _ _
      refine Run.goto d_Rf_judge_82 ?_
      exact ih c87 p3 tr3 (by rw [hJ, hD]) (fstN_n hfn hb) hs3 hk3.1 (by omega)
    · cases c73
  have hpw : 0 < 1000 ^ (n - 1 - k) := Nat.pow_pos (by omega)
  have hpl : 1000 ^ (n - 1 - k) ≤ 1000 ^ 4 := Nat.pow_le_pow_right (by omega) (by omega)
  have hqd : r0 / 1000 ^ (n - 1 - k) < 2 ^ 63 := Nat.lt_of_le_of_lt (Nat.div_le_self _ _) hr0
  have hne : ¬ lN (1000 ^ (n - 1 - k)) = 0 := fun z => by
    rw [show (0 : Int64) = lN 0 from rfl, pk_lEQ (by omega) (by omega)] at z
    omega
  refine Run.iload d_Rf_judge_44 rfl ?_
  refine Run.iload_n d_Rf_judge_46 rfl ?_
  first | refine Run.icmp_ge_n d_Rf_judge_47 (by omega) (by omega) (fun c47 => ?_) (fun c47 => ?_) | refine Run.icmp_ge d_Rf_judge_47 (fun c47 => ?_) (fun c47 => ?_)
  · refine Run.bipush (v := -9) d_Rf_judge_85 bp_m9 ?_
    refine Run.iret d_Rf_judge_87 rfl rfl ?_
    have e8 : k = n := by omega
    subst e8
    exact ⟨by rw [hfn]; rfl, tr2, rfl⟩
  · refine Run.aload_n d_Rf_judge_50 rfl ?_
    refine Run.lload_n d_Rf_judge_51 rfl ?_
    refine Run.ldc2 d_Rf_judge_52 kn_Rf_198 ?_
    rw [show (1000 : Int64) = lN 1000 from rfl]
    refine Run.iload_n d_Rf_judge_55 rfl ?_
    refine Run.iconst (v := nI 1) d_Rf_judge_56 ic_1 ?_
    first | refine Run.isub_n d_Rf_judge_57 (by omega) ?_ | refine Run.isub d_Rf_judge_57 ?_
    refine Run.iload d_Rf_judge_58 rfl ?_
    first | refine Run.isub_n d_Rf_judge_60 (by omega) ?_ | refine Run.isub d_Rf_judge_60 ?_
    refine Run.S2r d_Rf_judge_61 lk_Rf_200 cm_Rf_longPower st_Rf_longPower (Nat.le_of_ble_eq_true rfl) (Nat.le_of_ble_eq_true rfl) (c_Rf_longPower (by omega)) ?_
    refine Run.ldiv d_Rf_judge_64 hne ?_
    rw [pk_lDiv hr0 hpw (by omega)]
    refine Run.ldc2 d_Rf_judge_65 kn_Rf_198 ?_
    refine Run.lrem d_Rf_judge_68 (by decide +kernel) ?_
    rw [show (1000 : Int64) = lN 1000 from rfl, pk_lRem hqd (by omega) (by omega)]
    refine Run.l2i d_Rf_judge_69 ?_
    rw [lN_i, show r0 / 1000 ^ (n - 1 - k) % 1000 = digN r0 n k from rfl]
    refine Run.V1 d_Rf_judge_70 lk_Rf_204 cm_Rf_does iv_Rf_does rfl (by first | rfl | assumption) (Nat.le_of_ble_eq_true rfl) (Nat.le_of_ble_eq_true rfl) (q_Rf_does (Nat.mod_lt _ (by omega)) hc hp2 hr hg2) (fun r70 h70 q70 => ?_)
    rcases q70 with ⟨hD, rfl, rfl⟩ | ⟨p3, tr3, hD, hs3, rfl, rfl⟩
    · exact hA c47 hD
    · exact hB c47 p3 tr3 hD hs3
theorem q_Rf_judge {n : Int32} {row : Int64} (hc : coOK c) (hp : pgOK c p) (hh : pgH p ≤ 800) (hr : RfR c nu.2.2.1 nu.2.2.2.1 ho pi) (hg : PgV c p pg) : Call X (d + 6) 0 0 M_Rf_judge [.ref 44, .int n, .long row] (PX f0 ++ hM nu tx ho pi rh rp pg tr bk kp ik ta tp ga gr va rw) (fun r h2 => r = some (.int (judgeR c p n row)) ∧ ∃ tr2, h2 = PX f0 ++ hM nu tx ho pi rh rp pg tr2 bk kp ik ta tp ga gr va rw) := by
  show Run X (d + 6) 0 0 M_Rf_judge 0 [some (.ref 44), some (.int n), some (.long row), none, none] [] _ _
  refine Run.aload_n d_Rf_judge_0 rfl ?_
  refine Run.iconst (v := nI 0) d_Rf_judge_1 ic_0 ?_
  refine Run.putf d_Rf_judge_2 fl_Rf_59 (fun _ => rfl) (fun _ => rfl) (by first | rfl | assumption) (by exact Nat.le_of_ble_eq_true rfl) ?_
  refine run_hp (show _ = PX f0 ++ hM nu tx ho pi rh rp pg tr bk kp ik ta tp ga gr va rw from rfl) ?_
  refine Run.iload_n d_Rf_judge_5 rfl ?_
  refine Run.i2l d_Rf_judge_6 ?_
  refine Run.lconst (v := 1) d_Rf_judge_7 rfl ?_
  refine Run.ldc2 d_Rf_judge_8 kn_Rf_175 ?_
  refine Run.S3r d_Rf_judge_11 lk_Rf_66 cm_Rf_in st_Rf_in (Nat.le_of_ble_eq_true rfl) (Nat.le_of_ble_eq_true rfl) (c_Rf_in) ?_
  rw [in_C (a := 1) (b := 4) (by omega) (by omega) (by decide +kernel) (by decide +kernel)]
  first | refine Run.if_eq_b d_Rf_judge_14 (fun c14 => ?_) (fun c14 => ?_) | refine Run.if_eq_n d_Rf_judge_14 (by omega) (fun c14 => ?_) (fun c14 => ?_) | refine Run.if_eq d_Rf_judge_14 (fun c14 => ?_) (fun c14 => ?_)
  · refine Run.bipush (v := -2) d_Rf_judge_34 bp_m2 ?_
    refine Run.iret d_Rf_judge_36 rfl rfl ?_
    refine ⟨?_, tr, rfl⟩
    first
      | (rw [judgeR, c14]; rfl)
      | (rw [judgeR, hn14, tn_nI (by omega), c31]; rfl)
  · have hn14 := c14
    obtain ⟨M, hM1, hM2, rfl⟩ := inC_t (by omega) (by omega) c14
    have hpw : 0 < 1000 ^ M := Nat.pow_pos (by omega)
    have hpl : 1000 ^ M ≤ 1000 ^ 4 := Nat.pow_le_pow_right (by omega) hM2
    have hin : (decide ((0 : Int64) ≤ row) && decide (row ≤ lN (1000 ^ M) - 1)) = (decide (0 ≤ row) && decide (row.toBitVec.toNat < 1000 ^ M)) := by
      by_cases h0 : row < 0
      · rw [decide_eq_false (Int64.not_le.mpr h0), Bool.false_and, Bool.false_and]
      · obtain ⟨r, hr2, rfl⟩ := pk_lOf h0
        rw [show (1 : Int64) = lN 1 from rfl, lN_sub (by omega), lN_nat hr2]
        congr 1
        rw [decide_eq_decide, pk_lLE hr2 (by omega)]
        omega
    refine Run.lload_n d_Rf_judge_17 rfl ?_
    refine Run.lconst (v := 0) d_Rf_judge_18 rfl ?_
    refine Run.ldc2 d_Rf_judge_19 kn_Rf_198 ?_
    rw [show (1000 : Int64) = lN 1000 from rfl]
    refine Run.iload_n d_Rf_judge_22 rfl ?_
    refine Run.S2r d_Rf_judge_23 lk_Rf_200 cm_Rf_longPower st_Rf_longPower (Nat.le_of_ble_eq_true rfl) (Nat.le_of_ble_eq_true rfl) (c_Rf_longPower (by omega)) ?_
    refine Run.lconst (v := 1) d_Rf_judge_26 rfl ?_
    refine Run.lsub d_Rf_judge_27 ?_
    refine Run.S3r d_Rf_judge_28 lk_Rf_66 cm_Rf_in st_Rf_in (Nat.le_of_ble_eq_true rfl) (Nat.le_of_ble_eq_true rfl) (c_Rf_in) ?_
    rw [hin]
    first | refine Run.if_ne_b d_Rf_judge_31 (fun c31 => ?_) (fun c31 => ?_) | refine Run.if_ne_n d_Rf_judge_31 (by omega) (fun c31 => ?_) (fun c31 => ?_) | refine Run.if_ne d_Rf_judge_31 (fun c31 => ?_) (fun c31 => ?_)
    · have hR : judgeR c p (nI M) row = oI (fstN (jgF c (digN row.toBitVec.toNat M) p) M) := by
        rw [judgeR, hn14, tn_nI (by omega), c31]
        rfl
      rw [Bool.and_eq_true, decide_eq_true_eq, decide_eq_true_eq] at c31
      obtain ⟨r, hr2, rfl⟩ := pk_lOf (Int64.not_lt.mpr c31.1)
      rw [lN_nat hr2] at hR
      refine Run.aload_n d_Rf_judge_37 rfl ?_
      refine Run.V0 d_Rf_judge_38 lk_Rf_183 cm_Rf_begin iv_Rf_begin rfl (by first | rfl | assumption) (Nat.le_of_ble_eq_true rfl) (Nat.le_of_ble_eq_true rfl) (q_Rf_begin) (fun r38 h38 q38 => ?_)
      obtain ⟨rfl, t3, hb, rfl⟩ := q38
      rw [hR]
      refine Run.iconst (v := nI 0) d_Rf_judge_41 ic_0 ?_
      refine Run.istore d_Rf_judge_42 rfl rfl ?_
      show Run _ _ _ _ _ _ [_, _, _, _, _] _ _ _
      exact r_rjudge44 hM2 hr2 hc hp hh hr (hg.cp hc.2.1 hb)
    · refine Run.bipush (v := -2) d_Rf_judge_34 bp_m2 ?_
      refine Run.iret d_Rf_judge_36 rfl rfl ?_
      refine ⟨?_, tr, rfl⟩
      first
        | (rw [judgeR, c14]; rfl)
        | (rw [judgeR, hn14, tn_nI (by omega), c31]; rfl)
end RJUDGE
