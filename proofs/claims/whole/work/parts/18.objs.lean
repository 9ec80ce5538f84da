/-! ===== objects that change: texts, acts, states, pages ===== -/
theorem gs {h : AH} {k : Nat} {a b : AC} (hk : h[k]? = some b) : (h.set k a)[k]? = some a := List.getElem?_set_self (List.getElem?_eq_some_iff.mp hk).1
theorem gn {h : AH} {k j : Nat} {a b : AC} (hjk : k ≠ j) (hj : h[j]? = some b) : (h.set k a)[j]? = some b := by rw [List.getElem?_set_ne hjk]; exact hj
theorem isS {h : AH} {k : Nat} {b : AC} (hk : h[k]? = some b) : (h[k]?).isSome = true := by rw [hk]; rfl
theorem isn {h : AH} {k j : Nat} {a : AC} (hj : (h[j]?).isSome = true) : ((h.set k a)[j]?).isSome = true := by
  have h1 := (List.getElem?_eq_some_iff.mp (Option.eq_some_of_isSome hj)).1
  rw [List.getElem?_eq_getElem (by rw [List.length_set]; exact h1)]
  rfl
theorem gs2 {h : AH} {k : Nat} {a : AC} (hk : (h[k]?).isSome = true) : (h.set k a)[k]? = some a := gs (Option.eq_some_of_isSome hk)
theorem ss {h : AH} {k : Nat} {a b : AC} : (h.set k a).set k b = h.set k b := List.set_set ..
theorem sc {h : AH} {k j : Nat} {a b : AC} (hjk : k ≠ j) : (h.set k a).set j b = (h.set j b).set k a := List.set_comm a b hjk
section OBJS
variable {X : Nat × (Nat → Int32)} {d : Nat} {h : AH} {c : CA} {p : PG} {k : Nat}
theorem c_Te_add1 {n : Nat} {f : Nat → Int32} {x : Int32} (h0 : h[k]? = some (.inr (5, [.ref (k + 2), .int (nI n)]))) (h1 : h[k + 1]? = some (.inl (.int, 48, .inl f))) (hn : n < 48) : Call X d 0 0 M_Te_add [.ref (k + 1), .int x] h (Ret (.int (bI true)) ((h.set (k + 1) (.inl (.int, 48, .inl (upd f n x)))).set k (.inr (5, [.ref (k + 2), .int (nI (n + 1))])))) := by
  show Run X d 0 0 M_Te_add 0 [some (.ref (k + 1)), some (.int x)] [] h _
  refine Run.aload_n d_Te_add_0 rfl ?_
  refine Run.getf d_Te_add_1 fl_Te_15 (by repeat (first | assumption | exact isS (by assumption) | apply gs2 | apply isn | refine gn (by omega) ?_)) (by rfl) ?_
  refine Run.bipush (v := nI 48) d_Te_add_4 bp_48 ?_
  first | refine Run.icmp_lt_n d_Te_add_6 (by omega) (by omega) (fun c6 => ?_) (fun c6 => ?_) | refine Run.icmp_lt d_Te_add_6 (fun c6 => ?_) (fun c6 => ?_)
  · refine Run.aload_n d_Te_add_11 rfl ?_
    refine Run.getf d_Te_add_12 fl_Te_9 (by repeat (first | assumption | exact isS (by assumption) | apply gs2 | apply isn | refine gn (by omega) ?_)) (by rfl) ?_
    refine Run.aload_n d_Te_add_15 rfl ?_
    refine Run.getf d_Te_add_16 fl_Te_15 (by repeat (first | assumption | exact isS (by assumption) | apply gs2 | apply isn | refine gn (by omega) ?_)) (by rfl) ?_
    refine Run.iload_n d_Te_add_19 rfl ?_
    refine Run.iast_n d_Te_add_20 (by repeat (first | assumption | exact isS (by assumption) | apply gs2 | apply isn | refine gn (by omega) ?_)) (by omega) (by omega) ?_
    refine Run.aload_n d_Te_add_21 rfl ?_
    refine Run.dup d_Te_add_22 rfl ?_
    refine Run.getf d_Te_add_23 fl_Te_15 (by repeat (first | assumption | exact isS (by assumption) | apply gs2 | apply isn | refine gn (by omega) ?_)) (by rfl) ?_
    refine Run.iconst (v := nI 1) d_Te_add_26 ic_1 ?_
    first | refine Run.iadd_n d_Te_add_27 ?_ | refine Run.iadd d_Te_add_27 ?_
    refine Run.putf d_Te_add_28 fl_Te_15 (fun _ => rfl) (fun _ => rfl) (by repeat (first | assumption | exact isS (by assumption) | apply gs2 | apply isn | refine gn (by omega) ?_)) (by exact Nat.le_of_ble_eq_true rfl) ?_
    refine Run.iconst (v := nI 1) d_Te_add_31 ic_1 ?_
    refine Run.iret d_Te_add_32 rfl (by first | exact bI_nar _ | decide +kernel) ?_
    exact ⟨rfl, rfl⟩
  · omega
theorem c_Te_add0 {n : Nat} {f : Nat → Int32} {x : Int32} (h0 : h[k]? = some (.inr (5, [.ref (k + 2), .int (nI n)]))) (hn : n = 48) : Call X d 0 0 M_Te_add [.ref (k + 1), .int x] h (Ret (.int (bI false)) h) := by
  show Run X d 0 0 M_Te_add 0 [some (.ref (k + 1)), some (.int x)] [] h _
  refine Run.aload_n d_Te_add_0 rfl ?_
  refine Run.getf d_Te_add_1 fl_Te_15 (by repeat (first | assumption | exact isS (by assumption) | apply gs2 | apply isn | refine gn (by omega) ?_)) (by rfl) ?_
  refine Run.bipush (v := nI 48) d_Te_add_4 bp_48 ?_
  first | refine Run.icmp_lt_n d_Te_add_6 (by omega) (by omega) (fun c6 => ?_) (fun c6 => ?_) | refine Run.icmp_lt d_Te_add_6 (fun c6 => ?_) (fun c6 => ?_)
  · omega
  · refine Run.iconst (v := nI 0) d_Te_add_9 ic_0 ?_
    refine Run.iret d_Te_add_10 rfl (by first | exact bI_nar _ | decide +kernel) ?_
    exact ⟨rfl, rfl⟩
/-- the row of acts with one more -/
def acA (f : Nat → Int32) (n : Nat) (v : Int32) : (Nat → Int32) × Nat := if n < 14 then (upd f n v, n + 1) else (upd (va_cpy f f 1 0 13) 13 v, 14)
theorem c_Ac_add {n a b e : Nat} {f : Nat → Int32} (h0 : h[k]? = some (.inr (0, [.ref (k + 2), .int (nI n)]))) (h1 : h[k + 1]? = some (.inl (.int, 14, .inl f))) (hn : n ≤ 14) : Call X (d + 1) 0 0 M_Ac_add [.ref (k + 1), .int (nI a), .int (nI b), .int (nI e)] h (Rv ((h.set (k + 1) (.inl (.int, 14, .inl (acA f n (nI (100 * a + 10 * b + e))).1))).set k (.inr (0, [.ref (k + 2), .int (nI (acA f n (nI (100 * a + 10 * b + e))).2)])))) := by
  show Run X (d + 1) 0 0 M_Ac_add 0 [some (.ref (k + 1)), some (.int (nI a)), some (.int (nI b)), some (.int (nI e))] [] h _
  by_cases hlt : n < 14
  · rw [acA, if_pos hlt]
    refine Run.aload_n d_Ac_add_0 rfl ?_
    refine Run.getf d_Ac_add_1 fl_Ac_15 (by repeat (first | assumption | exact isS (by assumption) | apply gs2 | apply isn | refine gn (by omega) ?_)) (by rfl) ?_
    refine Run.bipush (v := nI 14) d_Ac_add_4 bp_14 ?_
    first | refine Run.icmp_lt_n d_Ac_add_6 (by omega) (by omega) (fun c6 => ?_) (fun c6 => ?_) | refine Run.icmp_lt d_Ac_add_6 (fun c6 => ?_) (fun c6 => ?_)
    · refine Run.aload_n d_Ac_add_30 rfl ?_
      refine Run.getf d_Ac_add_31 fl_Ac_9 (by repeat (first | assumption | exact isS (by assumption) | apply gs2 | apply isn | refine gn (by omega) ?_)) (by rfl) ?_
      refine Run.aload_n d_Ac_add_34 rfl ?_
      refine Run.getf d_Ac_add_35 fl_Ac_15 (by repeat (first | assumption | exact isS (by assumption) | apply gs2 | apply isn | refine gn (by omega) ?_)) (by rfl) ?_
      refine Run.bipush (v := nI 100) d_Ac_add_38 bp_100 ?_
      refine Run.iload_n d_Ac_add_40 rfl ?_
      first | refine Run.imul_n d_Ac_add_41 ?_ | refine Run.imul d_Ac_add_41 ?_
      refine Run.bipush (v := nI 10) d_Ac_add_42 bp_10 ?_
      refine Run.iload_n d_Ac_add_44 rfl ?_
      first | refine Run.imul_n d_Ac_add_45 ?_ | refine Run.imul d_Ac_add_45 ?_
      first | refine Run.iadd_n d_Ac_add_46 ?_ | refine Run.iadd d_Ac_add_46 ?_
      refine Run.iload_n d_Ac_add_47 rfl ?_
      first | refine Run.iadd_n d_Ac_add_48 ?_ | refine Run.iadd d_Ac_add_48 ?_
      refine Run.iast_n d_Ac_add_49 (by repeat (first | assumption | exact isS (by assumption) | apply gs2 | apply isn | refine gn (by omega) ?_)) (by omega) (by omega) ?_
      refine Run.aload_n d_Ac_add_50 rfl ?_
      refine Run.dup d_Ac_add_51 rfl ?_
      refine Run.getf d_Ac_add_52 fl_Ac_15 (by repeat (first | assumption | exact isS (by assumption) | apply gs2 | apply isn | refine gn (by omega) ?_)) (by rfl) ?_
      refine Run.iconst (v := nI 1) d_Ac_add_55 ic_1 ?_
      first | refine Run.iadd_n d_Ac_add_56 ?_ | refine Run.iadd d_Ac_add_56 ?_
      refine Run.putf d_Ac_add_57 fl_Ac_15 (fun _ => rfl) (fun _ => rfl) (by repeat (first | assumption | exact isS (by assumption) | apply gs2 | apply isn | refine gn (by omega) ?_)) (by exact Nat.le_of_ble_eq_true rfl) ?_
      refine Run.vret d_Ac_add_60 rfl ?_
      exact ⟨rfl, rfl⟩
    · omega
  · rw [acA, if_neg hlt]
    refine Run.aload_n d_Ac_add_0 rfl ?_
    refine Run.getf d_Ac_add_1 fl_Ac_15 (by repeat (first | assumption | exact isS (by assumption) | apply gs2 | apply isn | refine gn (by omega) ?_)) (by rfl) ?_
    refine Run.bipush (v := nI 14) d_Ac_add_4 bp_14 ?_
    first | refine Run.icmp_lt_n d_Ac_add_6 (by omega) (by omega) (fun c6 => ?_) (fun c6 => ?_) | refine Run.icmp_lt d_Ac_add_6 (fun c6 => ?_) (fun c6 => ?_)
    · omega
    · refine Run.aload_n d_Ac_add_9 rfl ?_
      refine Run.getf d_Ac_add_10 fl_Ac_9 (by repeat (first | assumption | exact isS (by assumption) | apply gs2 | apply isn | refine gn (by omega) ?_)) (by rfl) ?_
      refine Run.iconst (v := nI 1) d_Ac_add_13 ic_1 ?_
      refine Run.aload_n d_Ac_add_14 rfl ?_
      refine Run.getf d_Ac_add_15 fl_Ac_9 (by repeat (first | assumption | exact isS (by assumption) | apply gs2 | apply isn | refine gn (by omega) ?_)) (by rfl) ?_
      refine Run.iconst (v := nI 0) d_Ac_add_18 ic_0 ?_
      refine Run.bipush (v := nI 13) d_Ac_add_19 bp_13 ?_
      refine Run.copyi d_Ac_add_21 cp_Ac_19 (by repeat (first | assumption | exact isS (by assumption) | apply gs2 | apply isn | refine gn (by omega) ?_)) (by repeat (first | assumption | exact isS (by assumption) | apply gs2 | apply isn | refine gn (by omega) ?_)) (by omega) (by omega) (by omega) (Nat.le_of_ble_eq_true rfl) ?_
      refine Run.aload_n d_Ac_add_24 rfl ?_
      refine Run.bipush (v := nI 13) d_Ac_add_25 bp_13 ?_
      refine Run.putf d_Ac_add_27 fl_Ac_15 (fun _ => rfl) (fun _ => rfl) (by repeat (first | assumption | exact isS (by assumption) | apply gs2 | apply isn | refine gn (by omega) ?_)) (by exact Nat.le_of_ble_eq_true rfl) ?_
      refine Run.aload_n d_Ac_add_30 rfl ?_
      refine Run.getf d_Ac_add_31 fl_Ac_9 (by repeat (first | assumption | exact isS (by assumption) | apply gs2 | apply isn | refine gn (by omega) ?_)) (by rfl) ?_
      refine Run.aload_n d_Ac_add_34 rfl ?_
      refine Run.getf d_Ac_add_35 fl_Ac_15 (by repeat (first | assumption | exact isS (by assumption) | apply gs2 | apply isn | refine gn (by omega) ?_)) (by rfl) ?_
      refine Run.bipush (v := nI 100) d_Ac_add_38 bp_100 ?_
      refine Run.iload_n d_Ac_add_40 rfl ?_
      first | refine Run.imul_n d_Ac_add_41 ?_ | refine Run.imul d_Ac_add_41 ?_
      refine Run.bipush (v := nI 10) d_Ac_add_42 bp_10 ?_
      refine Run.iload_n d_Ac_add_44 rfl ?_
      first | refine Run.imul_n d_Ac_add_45 ?_ | refine Run.imul d_Ac_add_45 ?_
      first | refine Run.iadd_n d_Ac_add_46 ?_ | refine Run.iadd d_Ac_add_46 ?_
      refine Run.iload_n d_Ac_add_47 rfl ?_
      first | refine Run.iadd_n d_Ac_add_48 ?_ | refine Run.iadd d_Ac_add_48 ?_
      refine Run.iast_n d_Ac_add_49 (by repeat (first | assumption | exact isS (by assumption) | apply gs2 | apply isn | refine gn (by omega) ?_)) (by omega) (by omega) ?_
      refine Run.aload_n d_Ac_add_50 rfl ?_
      refine Run.dup d_Ac_add_51 rfl ?_
      refine Run.getf d_Ac_add_52 fl_Ac_15 (by repeat (first | assumption | exact isS (by assumption) | apply gs2 | apply isn | refine gn (by omega) ?_)) (by rfl) ?_
      refine Run.iconst (v := nI 1) d_Ac_add_55 ic_1 ?_
      first | refine Run.iadd_n d_Ac_add_56 ?_ | refine Run.iadd d_Ac_add_56 ?_
      refine Run.putf d_Ac_add_57 fl_Ac_15 (fun _ => rfl) (fun _ => rfl) (by repeat (first | assumption | exact isS (by assumption) | apply gs2 | apply isn | refine gn (by omega) ?_)) (by exact Nat.le_of_ble_eq_true rfl) ?_
      refine Run.vret d_Ac_add_60 rfl ?_
      refine ⟨rfl, ?_⟩
      rw [sc (k := k) (j := k + 1) (by omega), ss, ss]
      rfl
theorem c_Ac_removeLast {n : Nat} {f : Nat → Int32} (h0 : h[k]? = some (.inr (0, [.ref (k + 2), .int (nI (n + 1))]))) (h1 : h[k + 1]? = some (.inl (.int, 14, .inl f))) (hn : n < 14) : Call X d 0 0 M_Ac_removeLast [.ref (k + 1)] h (Ret (.int (f n)) (h.set k (.inr (0, [.ref (k + 2), .int (nI n)])))) := by
  show Run X d 0 0 M_Ac_removeLast 0 [some (.ref (k + 1))] [] h _
  refine Run.aload_n d_Ac_removeLast_0 rfl ?_
  refine Run.getf d_Ac_removeLast_1 fl_Ac_15 (by repeat (first | assumption | exact isS (by assumption) | apply gs2 | apply isn | refine gn (by omega) ?_)) (by rfl) ?_
  first | refine Run.if_gt_n d_Ac_removeLast_4 (by omega) (fun c4 => ?_) (fun c4 => ?_) | refine Run.if_gt d_Ac_removeLast_4 (fun c4 => ?_) (fun c4 => ?_)
  · refine Run.aload_n d_Ac_removeLast_9 rfl ?_
    refine Run.dup d_Ac_removeLast_10 rfl ?_
    refine Run.getf d_Ac_removeLast_11 fl_Ac_15 (by repeat (first | assumption | exact isS (by assumption) | apply gs2 | apply isn | refine gn (by omega) ?_)) (by rfl) ?_
    refine Run.iconst (v := nI 1) d_Ac_removeLast_14 ic_1 ?_
    first | refine Run.isub_n d_Ac_removeLast_15 (by omega) ?_ | refine Run.isub d_Ac_removeLast_15 ?_
    refine Run.putf d_Ac_removeLast_16 fl_Ac_15 (fun _ => rfl) (fun _ => rfl) (by repeat (first | assumption | exact isS (by assumption) | apply gs2 | apply isn | refine gn (by omega) ?_)) (by exact Nat.le_of_ble_eq_true rfl) ?_
    refine Run.aload_n d_Ac_removeLast_19 rfl ?_
    refine Run.getf d_Ac_removeLast_20 fl_Ac_9 (by repeat (first | assumption | exact isS (by assumption) | apply gs2 | apply isn | refine gn (by omega) ?_)) (by rfl) ?_
    refine Run.aload_n d_Ac_removeLast_23 rfl ?_
    refine Run.getf d_Ac_removeLast_24 fl_Ac_15 (by repeat (first | assumption | exact isS (by assumption) | apply gs2 | apply isn | refine gn (by omega) ?_)) (by rfl) ?_
    refine Run.iald_n d_Ac_removeLast_27 (by repeat (first | assumption | exact isS (by assumption) | apply gs2 | apply isn | refine gn (by omega) ?_)) (by omega) (by omega) ?_
    refine Run.iret d_Ac_removeLast_28 rfl rfl ?_
    exact ⟨rfl, rfl⟩
  · omega
theorem c_St_tiltBy {i : Nat} {x : Int32} {v1 v2 v3 v4 : Value} {ft : Nat → Int32} (h0 : h[k]? = some (.inr (4, [.ref (k + 2), v1, v2, v3, v4]))) (h1 : h[k + 1]? = some (.inl (.int, 6, .inl ft))) (hi : i < 6) : Call X (d + 1) 0 0 M_St_tiltBy [.ref (k + 1), .int (nI i), .int x] h (Rv (h.set (k + 1) (.inl (.int, 6, .inl (upd ft i (nI (m8 (ft i + x)))))))) := by
  show Run X (d + 1) 0 0 M_St_tiltBy 0 [some (.ref (k + 1)), some (.int (nI i)), some (.int x)] [] h _
  refine Run.iload_n d_St_tiltBy_0 rfl ?_
  refine Run.bipush (v := nI 6) d_St_tiltBy_1 bp_6 ?_
  refine Run.S2r d_St_tiltBy_3 lk_St_35 cm_PM_isBelow st_PM_isBelow (Nat.le_of_ble_eq_true rfl) (Nat.le_of_ble_eq_true rfl) (c_PM_isBelow) ?_
  first | refine Run.if_eq_b d_St_tiltBy_6 (fun c6 => ?_) (fun c6 => ?_) | refine Run.if_eq_n d_St_tiltBy_6 (by omega) (fun c6 => ?_) (fun c6 => ?_) | refine Run.if_eq d_St_tiltBy_6 (fun c6 => ?_) (fun c6 => ?_)
  · simp [nI_pos' (show i < 2 ^ 31 by omega), nI_ltI (show i < 2 ^ 31 by omega) (show 6 < 2 ^ 31 by omega), hi] at c6
  · refine Run.aload_n d_St_tiltBy_9 rfl ?_
    refine Run.getf d_St_tiltBy_10 fl_St_9 (by repeat (first | assumption | exact isS (by assumption) | apply gs2 | apply isn | refine gn (by omega) ?_)) (by rfl) ?_
    refine Run.iload_n d_St_tiltBy_13 rfl ?_
    refine Run.aload_n d_St_tiltBy_14 rfl ?_
    refine Run.getf d_St_tiltBy_15 fl_St_9 (by repeat (first | assumption | exact isS (by assumption) | apply gs2 | apply isn | refine gn (by omega) ?_)) (by rfl) ?_
    refine Run.iload_n d_St_tiltBy_18 rfl ?_
    refine Run.iald_n d_St_tiltBy_19 (by repeat (first | assumption | exact isS (by assumption) | apply gs2 | apply isn | refine gn (by omega) ?_)) (by omega) (by omega) ?_
    refine Run.iload_n d_St_tiltBy_20 rfl ?_
    first | refine Run.iadd_n d_St_tiltBy_21 ?_ | refine Run.iadd d_St_tiltBy_21 ?_
    refine Run.S1r d_St_tiltBy_22 lk_St_39 cm_PM_byEight st_PM_byEight (Nat.le_of_ble_eq_true rfl) (Nat.le_of_ble_eq_true rfl) (c_PM_byEight) ?_
    refine Run.iast_n d_St_tiltBy_25 (by repeat (first | assumption | exact isS (by assumption) | apply gs2 | apply isn | refine gn (by omega) ?_)) (by omega) (by omega) ?_
    refine Run.vret d_St_tiltBy_26 rfl ?_
    exact ⟨rfl, rfl⟩
theorem c_St_giveTo {i : Nat} {x : Int32} {v1 v2 v3 v4 : Value} {fw : Nat → Int32} (h0 : h[k]? = some (.inr (4, [v1, .ref (k + 3), v2, v3, v4]))) (h1 : h[k + 2]? = some (.inl (.int, 6, .inl fw))) (hi : i < 6) : Call X (d + 1) 0 0 M_St_giveTo [.ref (k + 1), .int (nI i), .int x] h (Rv (h.set (k + 2) (.inl (.int, 6, .inl (upd fw i x))))) := by
  show Run X (d + 1) 0 0 M_St_giveTo 0 [some (.ref (k + 1)), some (.int (nI i)), some (.int x)] [] h _
  refine Run.iload_n d_St_giveTo_0 rfl ?_
  refine Run.bipush (v := nI 6) d_St_giveTo_1 bp_6 ?_
  refine Run.S2r d_St_giveTo_3 lk_St_35 cm_PM_isBelow st_PM_isBelow (Nat.le_of_ble_eq_true rfl) (Nat.le_of_ble_eq_true rfl) (c_PM_isBelow) ?_
  first | refine Run.if_eq_b d_St_giveTo_6 (fun c6 => ?_) (fun c6 => ?_) | refine Run.if_eq_n d_St_giveTo_6 (by omega) (fun c6 => ?_) (fun c6 => ?_) | refine Run.if_eq d_St_giveTo_6 (fun c6 => ?_) (fun c6 => ?_)
  · simp [nI_pos' (show i < 2 ^ 31 by omega), nI_ltI (show i < 2 ^ 31 by omega) (show 6 < 2 ^ 31 by omega), hi] at c6
  · refine Run.aload_n d_St_giveTo_9 rfl ?_
    refine Run.getf d_St_giveTo_10 fl_St_15 (by repeat (first | assumption | exact isS (by assumption) | apply gs2 | apply isn | refine gn (by omega) ?_)) (by rfl) ?_
    refine Run.iload_n d_St_giveTo_13 rfl ?_
    refine Run.iload_n d_St_giveTo_14 rfl ?_
    refine Run.iast_n d_St_giveTo_15 (by repeat (first | assumption | exact isS (by assumption) | apply gs2 | apply isn | refine gn (by omega) ?_)) (by omega) (by omega) ?_
    refine Run.vret d_St_giveTo_16 rfl ?_
    exact ⟨rfl, rfl⟩
theorem c_St_passHours {x li ho : Int32} {v1 v2 v4 : Value} (h0 : h[k]? = some (.inr (4, [v1, v2, .int li, .int ho, v4]))) : Call X (d + 1) 0 0 M_St_passHours [.ref (k + 1), .int x] h (Rv (h.set k (.inr (4, [v1, v2, .int (nI (m8 (li + x))), .int (ho + x), v4])))) := by
  show Run X (d + 1) 0 0 M_St_passHours 0 [some (.ref (k + 1)), some (.int x)] [] h _
  refine Run.aload_n d_St_passHours_0 rfl ?_
  refine Run.aload_n d_St_passHours_1 rfl ?_
  refine Run.getf d_St_passHours_2 fl_St_25 (by repeat (first | assumption | exact isS (by assumption) | apply gs2 | apply isn | refine gn (by omega) ?_)) (by rfl) ?_
  refine Run.iload_n d_St_passHours_5 rfl ?_
  first | refine Run.iadd_n d_St_passHours_6 ?_ | refine Run.iadd d_St_passHours_6 ?_
  refine Run.S1r d_St_passHours_7 lk_St_39 cm_PM_byEight st_PM_byEight (Nat.le_of_ble_eq_true rfl) (Nat.le_of_ble_eq_true rfl) (c_PM_byEight) ?_
  refine Run.putf d_St_passHours_10 fl_St_25 (fun _ => rfl) (fun _ => rfl) (by repeat (first | assumption | exact isS (by assumption) | apply gs2 | apply isn | refine gn (by omega) ?_)) (by exact Nat.le_of_ble_eq_true rfl) ?_
  refine Run.aload_n d_St_passHours_13 rfl ?_
  refine Run.dup d_St_passHours_14 rfl ?_
  refine Run.getf d_St_passHours_15 fl_St_26 (by repeat (first | assumption | exact isS (by assumption) | apply gs2 | apply isn | refine gn (by omega) ?_)) (by rfl) ?_
  refine Run.iload_n d_St_passHours_18 rfl ?_
  first | refine Run.iadd_n d_St_passHours_19 ?_ | refine Run.iadd d_St_passHours_19 ?_
  refine Run.putf d_St_passHours_20 fl_St_26 (fun _ => rfl) (fun _ => rfl) (by repeat (first | assumption | exact isS (by assumption) | apply gs2 | apply isn | refine gn (by omega) ?_)) (by exact Nat.le_of_ble_eq_true rfl) ?_
  refine Run.vret d_St_passHours_23 rfl ?_
  refine ⟨rfl, ?_⟩
  rw [ss]
  rfl
theorem c_St_copyFrom {k2 : Nat} {v1 v2 v4 w4 : Value} {l1 l2 o1 o2 : Int32} {ft fw gt gw : Nat → Int32} (h0 : h[k]? = some (.inr (4, [.ref (k + 2), .ref (k + 3), .int l1, .int o1, v4]))) (h1 : h[k + 1]? = some (.inl (.int, 6, .inl ft))) (h2 : h[k + 2]? = some (.inl (.int, 6, .inl fw))) (g0 : h[k2]? = some (.inr (4, [.ref (k2 + 2), .ref (k2 + 3), .int l2, .int o2, w4]))) (g1 : h[k2 + 1]? = some (.inl (.int, 6, .inl gt))) (g2 : h[k2 + 2]? = some (.inl (.int, 6, .inl gw))) (ha : k + 3 ≤ k2 ∨ k2 + 3 ≤ k) : Call X (d + 1) 0 0 M_St_copyFrom [.ref (k + 1), .ref (k2 + 1)] h (Rv (((h.set (k + 1) (.inl (.int, 6, .inl (va_cpy gt ft 0 0 6)))).set (k + 2) (.inl (.int, 6, .inl (va_cpy gw fw 0 0 6)))).set k (.inr (4, [.ref (k + 2), .ref (k + 3), .int l2, .int o2, v4])))) := by
  show Run X (d + 1) 0 0 M_St_copyFrom 0 [some (.ref (k + 1)), some (.ref (k2 + 1))] [] h _
  refine Run.aload_n d_St_copyFrom_0 rfl ?_
  refine Run.getf d_St_copyFrom_1 fl_St_9 (by repeat (first | assumption | exact isS (by assumption) | apply gs2 | apply isn | refine gn (by omega) ?_)) (by rfl) ?_
  refine Run.iconst (v := nI 0) d_St_copyFrom_4 ic_0 ?_
  refine Run.aload_n d_St_copyFrom_5 rfl ?_
  refine Run.getf d_St_copyFrom_6 fl_St_9 (by repeat (first | assumption | exact isS (by assumption) | apply gs2 | apply isn | refine gn (by omega) ?_)) (by rfl) ?_
  refine Run.iconst (v := nI 0) d_St_copyFrom_9 ic_0 ?_
  refine Run.bipush (v := nI 6) d_St_copyFrom_10 bp_6 ?_
  refine Run.copyi d_St_copyFrom_12 cp_St_29 (by repeat (first | assumption | exact isS (by assumption) | apply gs2 | apply isn | refine gn (by omega) ?_)) (by repeat (first | assumption | exact isS (by assumption) | apply gs2 | apply isn | refine gn (by omega) ?_)) (by omega) (by omega) (by omega) (Nat.le_of_ble_eq_true rfl) ?_
  refine Run.aload_n d_St_copyFrom_15 rfl ?_
  refine Run.getf d_St_copyFrom_16 fl_St_15 (by repeat (first | assumption | exact isS (by assumption) | apply gs2 | apply isn | refine gn (by omega) ?_)) (by rfl) ?_
  refine Run.iconst (v := nI 0) d_St_copyFrom_19 ic_0 ?_
  refine Run.aload_n d_St_copyFrom_20 rfl ?_
  refine Run.getf d_St_copyFrom_21 fl_St_15 (by repeat (first | assumption | exact isS (by assumption) | apply gs2 | apply isn | refine gn (by omega) ?_)) (by rfl) ?_
  refine Run.iconst (v := nI 0) d_St_copyFrom_24 ic_0 ?_
  refine Run.bipush (v := nI 6) d_St_copyFrom_25 bp_6 ?_
  refine Run.copyi d_St_copyFrom_27 cp_St_29 (by repeat (first | assumption | exact isS (by assumption) | apply gs2 | apply isn | refine gn (by omega) ?_)) (by repeat (first | assumption | exact isS (by assumption) | apply gs2 | apply isn | refine gn (by omega) ?_)) (by omega) (by omega) (by omega) (Nat.le_of_ble_eq_true rfl) ?_
  refine Run.aload_n d_St_copyFrom_30 rfl ?_
  refine Run.aload_n d_St_copyFrom_31 rfl ?_
  refine Run.getf d_St_copyFrom_32 fl_St_25 (by repeat (first | assumption | exact isS (by assumption) | apply gs2 | apply isn | refine gn (by omega) ?_)) (by rfl) ?_
  refine Run.putf d_St_copyFrom_35 fl_St_25 (fun _ => rfl) (fun _ => rfl) (by repeat (first | assumption | exact isS (by assumption) | apply gs2 | apply isn | refine gn (by omega) ?_)) (by exact Nat.le_of_ble_eq_true rfl) ?_
  refine Run.aload_n d_St_copyFrom_38 rfl ?_
  refine Run.aload_n d_St_copyFrom_39 rfl ?_
  refine Run.getf d_St_copyFrom_40 fl_St_26 (by repeat (first | assumption | exact isS (by assumption) | apply gs2 | apply isn | refine gn (by omega) ?_)) (by rfl) ?_
  refine Run.putf d_St_copyFrom_43 fl_St_26 (fun _ => rfl) (fun _ => rfl) (by repeat (first | assumption | exact isS (by assumption) | apply gs2 | apply isn | refine gn (by omega) ?_)) (by exact Nat.le_of_ble_eq_true rfl) ?_
  refine Run.vret d_St_copyFrom_46 rfl ?_
  refine ⟨rfl, ?_⟩
  rw [ss]
  rfl
theorem c_Tu_add1 {n : Nat} {fa fb : Nat → Int32} {v3 v4 v5 : Value} {x y : Int32} (h0 : h[k]? = some (.inr (6, [.ref (k + 2), .ref (k + 3), .int (nI n), v3, v4, v5]))) (h1 : h[k + 1]? = some (.inl (.int, 6, .inl fa))) (h2 : h[k + 2]? = some (.inl (.int, 6, .inl fb))) (hn : n < 6) : Call X d 0 0 M_Tu_add [.ref (k + 1), .int x, .int y] h (Ret (.int (bI true)) (((h.set (k + 1) (.inl (.int, 6, .inl (upd fa n x)))).set (k + 2) (.inl (.int, 6, .inl (upd fb n y)))).set k (.inr (6, [.ref (k + 2), .ref (k + 3), .int (nI (n + 1)), v3, v4, v5])))) := by
  show Run X d 0 0 M_Tu_add 0 [some (.ref (k + 1)), some (.int x), some (.int y)] [] h _
  refine Run.aload_n d_Tu_add_0 rfl ?_
  refine Run.getf d_Tu_add_1 fl_Tu_21 (by repeat (first | assumption | exact isS (by assumption) | apply gs2 | apply isn | refine gn (by omega) ?_)) (by rfl) ?_
  refine Run.bipush (v := nI 6) d_Tu_add_4 bp_6 ?_
  first | refine Run.icmp_lt_n d_Tu_add_6 (by omega) (by omega) (fun c6 => ?_) (fun c6 => ?_) | refine Run.icmp_lt d_Tu_add_6 (fun c6 => ?_) (fun c6 => ?_)
  · refine Run.aload_n d_Tu_add_11 rfl ?_
    refine Run.getf d_Tu_add_12 fl_Tu_9 (by repeat (first | assumption | exact isS (by assumption) | apply gs2 | apply isn | refine gn (by omega) ?_)) (by rfl) ?_
    refine Run.aload_n d_Tu_add_15 rfl ?_
    refine Run.getf d_Tu_add_16 fl_Tu_21 (by repeat (first | assumption | exact isS (by assumption) | apply gs2 | apply isn | refine gn (by omega) ?_)) (by rfl) ?_
    refine Run.iload_n d_Tu_add_19 rfl ?_
    refine Run.iast_n d_Tu_add_20 (by repeat (first | assumption | exact isS (by assumption) | apply gs2 | apply isn | refine gn (by omega) ?_)) (by omega) (by omega) ?_
    refine Run.aload_n d_Tu_add_21 rfl ?_
    refine Run.getf d_Tu_add_22 fl_Tu_15 (by repeat (first | assumption | exact isS (by assumption) | apply gs2 | apply isn | refine gn (by omega) ?_)) (by rfl) ?_
    refine Run.aload_n d_Tu_add_25 rfl ?_
    refine Run.getf d_Tu_add_26 fl_Tu_21 (by repeat (first | assumption | exact isS (by assumption) | apply gs2 | apply isn | refine gn (by omega) ?_)) (by rfl) ?_
    refine Run.iload_n d_Tu_add_29 rfl ?_
    refine Run.iast_n d_Tu_add_30 (by repeat (first | assumption | exact isS (by assumption) | apply gs2 | apply isn | refine gn (by omega) ?_)) (by omega) (by omega) ?_
    refine Run.aload_n d_Tu_add_31 rfl ?_
    refine Run.dup d_Tu_add_32 rfl ?_
    refine Run.getf d_Tu_add_33 fl_Tu_21 (by repeat (first | assumption | exact isS (by assumption) | apply gs2 | apply isn | refine gn (by omega) ?_)) (by rfl) ?_
    refine Run.iconst (v := nI 1) d_Tu_add_36 ic_1 ?_
    first | refine Run.iadd_n d_Tu_add_37 ?_ | refine Run.iadd d_Tu_add_37 ?_
    refine Run.putf d_Tu_add_38 fl_Tu_21 (fun _ => rfl) (fun _ => rfl) (by repeat (first | assumption | exact isS (by assumption) | apply gs2 | apply isn | refine gn (by omega) ?_)) (by exact Nat.le_of_ble_eq_true rfl) ?_
    refine Run.iconst (v := nI 1) d_Tu_add_41 ic_1 ?_
    refine Run.iret d_Tu_add_42 rfl (by first | exact bI_nar _ | decide +kernel) ?_
    exact ⟨rfl, rfl⟩
  · omega
theorem c_Tu_add0 {n : Nat} {v1 v2 v3 v4 v5 : Value} {x y : Int32} (h0 : h[k]? = some (.inr (6, [v1, v2, .int (nI n), v3, v4, v5]))) (hn : n = 6) : Call X d 0 0 M_Tu_add [.ref (k + 1), .int x, .int y] h (Ret (.int (bI false)) h) := by
  show Run X d 0 0 M_Tu_add 0 [some (.ref (k + 1)), some (.int x), some (.int y)] [] h _
  refine Run.aload_n d_Tu_add_0 rfl ?_
  refine Run.getf d_Tu_add_1 fl_Tu_21 (by repeat (first | assumption | exact isS (by assumption) | apply gs2 | apply isn | refine gn (by omega) ?_)) (by rfl) ?_
  refine Run.bipush (v := nI 6) d_Tu_add_4 bp_6 ?_
  first | refine Run.icmp_lt_n d_Tu_add_6 (by omega) (by omega) (fun c6 => ?_) (fun c6 => ?_) | refine Run.icmp_lt d_Tu_add_6 (fun c6 => ?_) (fun c6 => ?_)
  · omega
  · refine Run.iconst (v := nI 0) d_Tu_add_9 ic_0 ?_
    refine Run.iret d_Tu_add_10 rfl (by first | exact bI_nar _ | decide +kernel) ?_
    exact ⟨rfl, rfl⟩
end OBJS
