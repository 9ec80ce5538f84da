/-! ===== what is seen (the reference) ===== -/
theorem lg_lt {x y : Int64} : lg_cmp x y < 0 ↔ x < y := by
  unfold lg_cmp
  split
  · rename_i q
    constructor
    · intro z; exact absurd z (by decide)
    · intro z; exact absurd (Int64.lt_trans z q) (Int64.lt_irrefl)
  · split
    · rename_i q
      subst q
      constructor
      · intro z; exact absurd z (by decide)
      · intro z; exact absurd z (Int64.lt_irrefl)
    · rename_i q1 q2
      constructor
      · intro _
        rcases Int64.lt_or_eq_of_le (Int64.not_lt.mp q1) with w | w
        · exact w
        · exact absurd w q2
      · intro _; decide
theorem lg_gt {x y : Int64} : 0 < lg_cmp x y ↔ y < x := by
  unfold lg_cmp
  split
  · rename_i q
    constructor
    · intro _; exact q
    · intro _; decide
  · split
    · rename_i q1 q2
      constructor
      · intro z; exact absurd z (by decide)
      · intro z; exact absurd z q1
    · rename_i q1 q2
      constructor
      · intro z; exact absurd z (by decide)
      · intro z; exact absurd z q1
theorem in_B {x : Int32} {b : Int64} {n : Nat} (hn : n < 2 ^ 31) (hb : b.toInt = (n : Int) - 1) : (decide ((0 : Int64) ≤ x.toInt64) && decide (x.toInt64 ≤ b)) = inB x n := by
  have e1 : ((0 : Int64) ≤ x.toInt64) ↔ (0 : Int32) ≤ x := by
    rw [Int64.le_iff_toInt_le, Int32.le_iff_toInt_le, Int32.toInt_toInt64]
    exact Iff.rfl
  have e2 : x.toInt64 ≤ b ↔ x < nI n := by
    rw [Int64.le_iff_toInt_le, Int32.lt_iff_toInt_lt, Int32.toInt_toInt64, hb, nI_toInt hn]
    omega
  simp only [inB, e1, e2]
/-- the cells of the reference's object: thrown stays 0 -/
def rfO (ts pl nh np rl rh rp ac tu : Int32) (sd : Int64) (mm mf rm rf : Int32) : AC := .inr (8, [.int (nI 0), .ref 45, .int ts, .int pl, .int nh, .ref 46, .int np, .ref 47, .int rl, .int rh, .ref 48, .int rp, .ref 49, .ref 50, .ref 51, .ref 52, .int ac, .ref 53, .ref 54, .int tu, .ref 55, .ref 56, .long sd, .int mm, .int mf, .int rm, .int rf, .ref 57, .ref 58, .ref 59, .ref 60])
/-- the coast that the reference has -/
def RfAt (h : AH) (c : CA) : Prop := ∃ (ts pl rl rh rp ac tu : Int32) (sd : Int64) (mm mf rm rf : Int32) (fh fp : Nat → Int32), h[43]? = some (.inr (8, [.int (nI 0), .ref 45, .int ts, .int pl, .int (nI (nhC c)), .ref 46, .int (nI (npC c)), .ref 47, .int rl, .int rh, .ref 48, .int rp, .ref 49, .ref 50, .ref 51, .ref 52, .int ac, .ref 53, .ref 54, .int tu, .ref 55, .ref 56, .long sd, .int mm, .int mf, .int rm, .int rf, .ref 57, .ref 58, .ref 59, .ref 60])) ∧ h[45]? = some (.inl (.int, 4, .inl fh)) ∧ h[46]? = some (.inl (.int, 18, .inl fp)) ∧ (∀ j, j < nhC c → fh j = nI (hkC c j)) ∧ ∀ i, i < npC c → fp (3 * i) = nI (ptC c i) ∧ fp (3 * i + 1) = nI (anC c i) ∧ fp (3 * i + 2) = nI (kdC c i)
def PgV (c : CA) (p : PG) (f : Nat → Int32) : Prop := (∀ i, i < npC c → f i = nI (pgT p i) ∧ f (6 + i) = nI (pgW p i)) ∧ f 12 = nI (pgL p) ∧ f 13 = nI (pgH p)
/-- a page of the reference at k -/
def PgAt (h : AH) (k : Nat) (c : CA) (p : PG) : Prop := ∃ f : Nat → Int32, h[k]? = some (.inl (.int, 14, .inl f)) ∧ PgV c p f
theorem set_same {h : AH} {k : Nat} {c : AC} (hk : h[k]? = some c) : h.set k c = h := by
  apply List.ext_getElem?
  intro i
  rw [List.getElem?_set]
  split
  · rename_i e
    subst e
    have := (List.getElem?_eq_some_iff.mp hk).1
    rw [if_pos this, hk]
  · rfl
/-- parts that a holder sees of some pieces -/
def sesF (c : CA) (p : PG) (j s : Nat) : Nat → Nat → Nat := fun i acc => if s.testBit i = true ∧ pgW p i = j ∧ sh c i j (angN p i) = true then acc ||| 2 ^ ptC c i else acc
def sesN (c : CA) (p : PG) (j s : Nat) : Nat := itN (sesF c p j s) 0 (npC c)
def tgsF (c : CA) (p : PG) (s : Nat) : Nat → Nat → Nat := fun j acc => acc ||| sesN c p j s
def tgsN (c : CA) (p : PG) (s : Nat) : Nat := itN (tgsF c p s) 0 (nhC c)
theorem itN_congr {α : Type} {f g : Nat → α → α} {a : α} (n : Nat) (h : ∀ i x, i < n → f i x = g i x) : itN f a n = itN g a n := by
  induction n with
  | zero => rfl
  | succ n ih =>
    show f n (itN f a n) = g n (itN g a n)
    rw [ih (fun i x hi => h i x (by omega)), h n _ (by omega)]
theorem bit63 : ∀ i, i < 6 → (63 : Nat).testBit i = true := by decide
theorem sesN_63 {c : CA} (hn : npC c ≤ 6) (p : PG) (j : Nat) : sesN c p j 63 = seenN c p j := itN_congr _ (fun i x hi => by simp [sesF, seenF, bit63 i (by omega)])
theorem tgsN_63 {c : CA} (hn : npC c ≤ 6) (p : PG) : tgsN c p 63 = togN c p := itN_congr _ (fun i x hi => by simp [tgsF, togF, sesN_63 hn])
theorem sesN_lt {c : CA} (hc : coOK c) (p : PG) (j s : Nat) : sesN c p j s < 32 := by
  refine itN_inv (fun x => x < 32) (by decide) _ (fun i x hi hx => ?_)
  unfold sesF
  split
  · have h1 := (hc.2.2.2 i hi).1
    have h2 : 2 ^ ptC c i < 2 ^ 5 := Nat.pow_lt_pow_right (by omega) h1
    exact Nat.or_lt_two_pow (n := 5) hx h2
  · exact hx
def manyF (s : Nat) : Nat → Nat → Nat := fun k acc => acc + (s / 2 ^ k &&& 1)
def manyN (s : Nat) : Nat := itN (manyF s) 0 6
theorem ap_R : ∀ a, a < 8 → ∀ b, b < 8 → (if (if b < a then a - b else b - a) ≤ 4 then (if b < a then a - b else b - a) else 8 - (if b < a then a - b else b - a)) = ap b a := by decide
section RSEEN
variable {X : Nat × (Nat → Int32)} {d : Nat} {h : AH} {c : CA} {p : PG} {k : Nat}
theorem c_Rf_in {v a b : Int64} : Call X d 0 0 M_Rf_in [.long v, .long a, .long b] h (Ret (.int (bI (decide (a ≤ v) && decide (v ≤ b)))) h) := by
  show Run X d 0 0 M_Rf_in 0 [some (.long v), none, some (.long a), none, some (.long b), none] [] h _
  refine Run.lload_n d_Rf_in_0 rfl ?_
  refine Run.lload_n d_Rf_in_1 rfl ?_
  refine Run.lcmp d_Rf_in_2 ?_
  refine Run.if_lt d_Rf_in_3 (fun c3 => ?_) (fun c3 => ?_)
  · rw [lg_lt] at c3
    refine Run.iconst (v := nI 0) d_Rf_in_17 ic_0 ?_
    refine Run.iret d_Rf_in_18 rfl (by first | exact bI_nar _ | decide +kernel) ?_
    first | exact ret_f (by rw [decide_eq_false (Int64.not_le.mpr c3), Bool.false_and]) | exact ret_f (by rw [decide_eq_false (Int64.not_le.mpr c10), Bool.and_false]) | exact ret_t (by rw [decide_eq_true (Int64.not_lt.mp c3), decide_eq_true (Int64.not_lt.mp c10)]; rfl)
  · rw [lg_lt] at c3
    refine Run.lload_n d_Rf_in_6 rfl ?_
    refine Run.lload d_Rf_in_7 rfl ?_
    refine Run.lcmp d_Rf_in_9 ?_
    first | refine Run.if_gt_n d_Rf_in_10 (by omega) (fun c10 => ?_) (fun c10 => ?_) | refine Run.if_gt d_Rf_in_10 (fun c10 => ?_) (fun c10 => ?_)
    · rw [lg_gt] at c10
      refine Run.iconst (v := nI 0) d_Rf_in_17 ic_0 ?_
      refine Run.iret d_Rf_in_18 rfl (by first | exact bI_nar _ | decide +kernel) ?_
      first | exact ret_f (by rw [decide_eq_false (Int64.not_le.mpr c3), Bool.false_and]) | exact ret_f (by rw [decide_eq_false (Int64.not_le.mpr c10), Bool.and_false]) | exact ret_t (by rw [decide_eq_true (Int64.not_lt.mp c3), decide_eq_true (Int64.not_lt.mp c10)]; rfl)
    · rw [lg_gt] at c10
      refine Run.iconst (v := nI 1) d_Rf_in_13 ic_1 ?_
      refine Run.goto d_Rf_in_14 ?_
      refine Run.iret d_Rf_in_18 rfl (by first | exact bI_nar _ | decide +kernel) ?_
      first | exact ret_f (by rw [decide_eq_false (Int64.not_le.mpr c3), Bool.false_and]) | exact ret_f (by rw [decide_eq_false (Int64.not_le.mpr c10), Bool.and_false]) | exact ret_t (by rw [decide_eq_true (Int64.not_lt.mp c3), decide_eq_true (Int64.not_lt.mp c10)]; rfl)
theorem c_Rf_has {a b : Nat} (hb : b < 32) (ha : a < 2 ^ 31) : Call X d 0 0 M_Rf_has [.int (nI a), .int (nI b)] h (Ret (.int (bI (a.testBit b))) h) := by
  show Run X d 0 0 M_Rf_has 0 [some (.int (nI a)), some (.int (nI b))] [] h _
  have e1 : a / 2 ^ b &&& 1 = (a.testBit b).toNat := by
    rw [Nat.testBit_eq_decide_div_mod_eq, Nat.and_one_is_mod]
    have : a / 2 ^ b % 2 = 0 ∨ a / 2 ^ b % 2 = 1 := by omega
    rcases this with q | q <;> simp [q]
  refine Run.iload_n d_Rf_has_0 rfl ?_
  refine Run.iload_n d_Rf_has_1 rfl ?_
  first | refine Run.ishr_n d_Rf_has_2 (by omega) (by omega) ?_ | refine Run.ishr d_Rf_has_2 ?_
  refine Run.iconst (v := nI 1) d_Rf_has_3 ic_1 ?_
  first | refine Run.iand_n d_Rf_has_4 ?_ | refine Run.iand d_Rf_has_4 ?_
  refine Run.iconst (v := nI 1) d_Rf_has_5 ic_1 ?_
  have e2 : a / 2 ^ b &&& 1 < 2 := by rw [e1]; cases a.testBit b <;> decide
  first | refine Run.icmp_ne_n d_Rf_has_6 (by omega) (by omega) (fun c6 => ?_) (fun c6 => ?_) | refine Run.icmp_ne d_Rf_has_6 (fun c6 => ?_) (fun c6 => ?_)
  · refine Run.iconst (v := nI 0) d_Rf_has_13 ic_0 ?_
    refine Run.iret d_Rf_has_14 rfl (by first | exact bI_nar _ | decide +kernel) ?_
    first | exact ret_t (by revert c6; rw [e1]; cases a.testBit b <;> simp) | exact ret_f (by revert c6; rw [e1]; cases a.testBit b <;> simp)
  · refine Run.iconst (v := nI 1) d_Rf_has_9 ic_1 ?_
    refine Run.goto d_Rf_has_10 ?_
    refine Run.iret d_Rf_has_14 rfl (by first | exact bI_nar _ | decide +kernel) ?_
    first | exact ret_t (by revert c6; rw [e1]; cases a.testBit b <;> simp) | exact ret_f (by revert c6; rw [e1]; cases a.testBit b <;> simp)
theorem c_Rf_many {s : Nat} (hs : s < 2 ^ 31) : Call X d 0 0 M_Rf_many [.int (nI s)] h (Ret (.int (nI (manyN s))) h) := by
  show Run X d 0 0 M_Rf_many 0 [some (.int (nI s)), none, none] [] h _
  refine Run.iconst (v := nI 0) d_Rf_many_0 ic_0 ?_
  refine Run.istore_n d_Rf_many_1 rfl rfl ?_
  show Run _ _ _ _ _ _ [_, _, _] _ _ _
  refine Run.iconst (v := nI 0) d_Rf_many_2 ic_0 ?_
  refine Run.istore_n d_Rf_many_3 rfl rfl ?_
  show Run _ _ _ _ _ _ [_, _, _] _ _ _
  refine upto 6 (fun i => Run X d 0 0 M_Rf_many 4 [some (.int (nI s)), some (.int (nI (itN (manyF s) 0 i))), some (.int (nI i))] [] h _) ?_ 0 (Nat.zero_le _)
  intro i hi ih
  refine Run.iload_n d_Rf_many_4 rfl ?_
  refine Run.bipush (v := nI 6) d_Rf_many_5 bp_6 ?_
  first | refine Run.icmp_ge_n d_Rf_many_7 (by omega) (by omega) (fun c7 => ?_) (fun c7 => ?_) | refine Run.icmp_ge d_Rf_many_7 (fun c7 => ?_) (fun c7 => ?_)
  · refine Run.iload_n d_Rf_many_24 rfl ?_
    refine Run.iret d_Rf_many_25 rfl rfl ?_
    exact ret_n (by rw [show i = 6 by omega]; rfl)
  · refine Run.iload_n d_Rf_many_10 rfl ?_
    refine Run.iload_n d_Rf_many_11 rfl ?_
    refine Run.iload_n d_Rf_many_12 rfl ?_
    first | refine Run.ishr_n d_Rf_many_13 (by omega) (by omega) ?_ | refine Run.ishr d_Rf_many_13 ?_
    refine Run.iconst (v := nI 1) d_Rf_many_14 ic_1 ?_
    first | refine Run.iand_n d_Rf_many_15 ?_ | refine Run.iand d_Rf_many_15 ?_
    first | refine Run.iadd_n d_Rf_many_16 ?_ | refine Run.iadd d_Rf_many_16 ?_
    refine Run.istore_n d_Rf_many_17 rfl rfl ?_
    show Run _ _ _ _ _ _ [_, _, _] _ _ _
    first | refine Run.iinc_n d_Rf_many_18 ic_1 rfl rfl ?_ | refine Run.iinc d_Rf_many_18 rfl rfl rfl ?_
    show Run _ _ _ _ _ _ [_, _, _] _ _ _
    refine Run.goto d_Rf_many_21 ?_
    exact ih c7
theorem c_Rf_power {a n : Nat} (hn : n < 100) : Call X d 0 0 M_Rf_power [.int (nI a), .int (nI n)] h (Ret (.int (nI (a ^ n))) h) := by
  show Run X d 0 0 M_Rf_power 0 [some (.int (nI a)), some (.int (nI n)), none, none] [] h _
  refine Run.iconst (v := nI 1) d_Rf_power_0 ic_1 ?_
  refine Run.istore_n d_Rf_power_1 rfl rfl ?_
  show Run _ _ _ _ _ _ [_, _, _, _] _ _ _
  refine Run.iconst (v := nI 0) d_Rf_power_2 ic_0 ?_
  refine Run.istore_n d_Rf_power_3 rfl rfl ?_
  show Run _ _ _ _ _ _ [_, _, _, _] _ _ _
  refine upto n (fun i => Run X d 0 0 M_Rf_power 4 [some (.int (nI a)), some (.int (nI n)), some (.int (nI (a ^ i))), some (.int (nI i))] [] h _) ?_ 0 (Nat.zero_le _)
  intro i hi ih
  refine Run.iload_n d_Rf_power_4 rfl ?_
  refine Run.iload_n d_Rf_power_5 rfl ?_
  first | refine Run.icmp_ge_n d_Rf_power_6 (by omega) (by omega) (fun c6 => ?_) (fun c6 => ?_) | refine Run.icmp_ge d_Rf_power_6 (fun c6 => ?_) (fun c6 => ?_)
  · refine Run.iload_n d_Rf_power_19 rfl ?_
    refine Run.iret d_Rf_power_20 rfl rfl ?_
    exact ret_n (by rw [show i = n by omega])
  · refine Run.iload_n d_Rf_power_9 rfl ?_
    refine Run.iload_n d_Rf_power_10 rfl ?_
    first | refine Run.imul_n d_Rf_power_11 ?_ | refine Run.imul d_Rf_power_11 ?_
    refine Run.istore_n d_Rf_power_12 rfl rfl ?_
    show Run _ _ _ _ _ _ [_, _, _, _] _ _ _
    first | refine Run.iinc_n d_Rf_power_13 ic_1 rfl rfl ?_ | refine Run.iinc d_Rf_power_13 rfl rfl rfl ?_
    show Run _ _ _ _ _ _ [_, _, _, _] _ _ _
    refine Run.goto d_Rf_power_16 ?_
    exact ih c6
theorem c_Rf_noHolder {x : Int32} (hc : coOK c) (hr : RfAt h c) : Call X (d + 1) 0 0 M_Rf_noHolder [.ref 44, .int x] h (Ret (.int (bI (!(inB x (nhC c))))) h) := by
  show Run X (d + 1) 0 0 M_Rf_noHolder 0 [some (.ref 44), some (.int x)] [] h _
  obtain ⟨ts, pl, rl, rh, rp, ac, tu, sd, mm, mf, rm, rf, fh, fp, g0, g1, g2, hv1, hv2⟩ := hr
  have b1 := hc.1
  have e1 : (nI (nhC c) - nI 1).toInt64.toInt = (nhC c : Int) - 1 := by rw [Int32.toInt_toInt64, pk_sub_toInt (by omega) (by omega)]; rfl
  refine Run.iload_n d_Rf_noHolder_0 rfl ?_
  refine Run.i2l d_Rf_noHolder_1 ?_
  refine Run.lconst (v := 0) d_Rf_noHolder_2 rfl ?_
  refine Run.aload_n d_Rf_noHolder_3 rfl ?_
  refine Run.getf d_Rf_noHolder_4 fl_Rf_63 (by first | rfl | assumption) (by rfl) ?_
  refine Run.iconst (v := nI 1) d_Rf_noHolder_7 ic_1 ?_
  refine Run.isub d_Rf_noHolder_8 ?_
  refine Run.i2l d_Rf_noHolder_9 ?_
  refine Run.S3r d_Rf_noHolder_10 lk_Rf_66 cm_Rf_in st_Rf_in (Nat.le_of_ble_eq_true rfl) (Nat.le_of_ble_eq_true rfl) (c_Rf_in) ?_
  rw [in_B (by omega) e1]
  first | refine Run.if_ne_b d_Rf_noHolder_13 (fun c13 => ?_) (fun c13 => ?_) | refine Run.if_ne_n d_Rf_noHolder_13 (by omega) (fun c13 => ?_) (fun c13 => ?_) | refine Run.if_ne d_Rf_noHolder_13 (fun c13 => ?_) (fun c13 => ?_)
  · refine Run.iconst (v := nI 0) d_Rf_noHolder_20 ic_0 ?_
    refine Run.iret d_Rf_noHolder_21 rfl (by first | exact bI_nar _ | decide +kernel) ?_
    first | exact ret_f (by rw [c13]; rfl) | exact ret_t (by rw [c13]; rfl)
  · refine Run.iconst (v := nI 1) d_Rf_noHolder_16 ic_1 ?_
    refine Run.goto d_Rf_noHolder_17 ?_
    refine Run.iret d_Rf_noHolder_21 rfl (by first | exact bI_nar _ | decide +kernel) ?_
    first | exact ret_f (by rw [c13]; rfl) | exact ret_t (by rw [c13]; rfl)
theorem c_Rf_noPiece {x : Int32} (hc : coOK c) (hr : RfAt h c) : Call X (d + 1) 0 0 M_Rf_noPiece [.ref 44, .int x] h (Ret (.int (bI (!(inB x (npC c))))) h) := by
  show Run X (d + 1) 0 0 M_Rf_noPiece 0 [some (.ref 44), some (.int x)] [] h _
  obtain ⟨ts, pl, rl, rh, rp, ac, tu, sd, mm, mf, rm, rf, fh, fp, g0, g1, g2, hv1, hv2⟩ := hr
  have b1 := hc.2.1
  have e1 : (nI (npC c) - nI 1).toInt64.toInt = (npC c : Int) - 1 := by rw [Int32.toInt_toInt64, pk_sub_toInt (by omega) (by omega)]; rfl
  refine Run.iload_n d_Rf_noPiece_0 rfl ?_
  refine Run.i2l d_Rf_noPiece_1 ?_
  refine Run.lconst (v := 0) d_Rf_noPiece_2 rfl ?_
  refine Run.aload_n d_Rf_noPiece_3 rfl ?_
  refine Run.getf d_Rf_noPiece_4 fl_Rf_70 (by first | rfl | assumption) (by rfl) ?_
  refine Run.iconst (v := nI 1) d_Rf_noPiece_7 ic_1 ?_
  refine Run.isub d_Rf_noPiece_8 ?_
  refine Run.i2l d_Rf_noPiece_9 ?_
  refine Run.S3r d_Rf_noPiece_10 lk_Rf_66 cm_Rf_in st_Rf_in (Nat.le_of_ble_eq_true rfl) (Nat.le_of_ble_eq_true rfl) (c_Rf_in) ?_
  rw [in_B (by omega) e1]
  first | refine Run.if_ne_b d_Rf_noPiece_13 (fun c13 => ?_) (fun c13 => ?_) | refine Run.if_ne_n d_Rf_noPiece_13 (by omega) (fun c13 => ?_) (fun c13 => ?_) | refine Run.if_ne d_Rf_noPiece_13 (fun c13 => ?_) (fun c13 => ?_)
  · refine Run.iconst (v := nI 0) d_Rf_noPiece_20 ic_0 ?_
    refine Run.iret d_Rf_noPiece_21 rfl (by first | exact bI_nar _ | decide +kernel) ?_
    first | exact ret_f (by rw [c13]; rfl) | exact ret_t (by rw [c13]; rfl)
  · refine Run.iconst (v := nI 1) d_Rf_noPiece_16 ic_1 ?_
    refine Run.goto d_Rf_noPiece_17 ?_
    refine Run.iret d_Rf_noPiece_21 rfl (by first | exact bI_nar _ | decide +kernel) ?_
    first | exact ret_f (by rw [c13]; rfl) | exact ret_t (by rw [c13]; rfl)
theorem c_Rf_apart {a b : Nat} (ha : a < 8) (hb : b < 8) : Call X d 0 0 M_Rf_apart [.int (nI a), .int (nI b)] h (Ret (.int (nI (ap b a))) h) := by
  show Run X d 0 0 M_Rf_apart 0 [some (.int (nI a)), some (.int (nI b)), none] [] h _
  have e := ap_R a ha b hb
  refine Run.iload_n d_Rf_apart_0 rfl ?_
  refine Run.iload_n d_Rf_apart_1 rfl ?_
  first | refine Run.icmp_le_n d_Rf_apart_2 (by omega) (by omega) (fun c2 => ?_) (fun c2 => ?_) | refine Run.icmp_le d_Rf_apart_2 (fun c2 => ?_) (fun c2 => ?_)
  · refine Run.iload_n d_Rf_apart_11 rfl ?_
    refine Run.iload_n d_Rf_apart_12 rfl ?_
    first | refine Run.isub_n d_Rf_apart_13 (by omega) ?_ | refine Run.isub d_Rf_apart_13 ?_
    refine Run.istore_n d_Rf_apart_14 rfl rfl ?_
    show Run _ _ _ _ _ _ [_, _, _] _ _ _
    refine Run.iload_n d_Rf_apart_15 rfl ?_
    refine Run.iconst (v := nI 4) d_Rf_apart_16 ic_4 ?_
    first | refine Run.icmp_le_n d_Rf_apart_17 (by omega) (by omega) (fun c17 => ?_) (fun c17 => ?_) | refine Run.icmp_le d_Rf_apart_17 (fun c17 => ?_) (fun c17 => ?_)
    · refine Run.iload_n d_Rf_apart_27 rfl ?_
      refine Run.iret d_Rf_apart_28 rfl rfl ?_
      exact ret_n (by rw [← e]; repeat (first | omega | split))
    · refine Run.bipush (v := nI 8) d_Rf_apart_20 bp_8 ?_
      refine Run.iload_n d_Rf_apart_22 rfl ?_
      first | refine Run.isub_n d_Rf_apart_23 (by omega) ?_ | refine Run.isub d_Rf_apart_23 ?_
      refine Run.goto d_Rf_apart_24 ?_
      refine Run.iret d_Rf_apart_28 rfl rfl ?_
      exact ret_n (by rw [← e]; repeat (first | omega | split))
  · refine Run.iload_n d_Rf_apart_5 rfl ?_
    refine Run.iload_n d_Rf_apart_6 rfl ?_
    first | refine Run.isub_n d_Rf_apart_7 (by omega) ?_ | refine Run.isub d_Rf_apart_7 ?_
    refine Run.goto d_Rf_apart_8 ?_
    refine Run.istore_n d_Rf_apart_14 rfl rfl ?_
    show Run _ _ _ _ _ _ [_, _, _] _ _ _
    refine Run.iload_n d_Rf_apart_15 rfl ?_
    refine Run.iconst (v := nI 4) d_Rf_apart_16 ic_4 ?_
    first | refine Run.icmp_le_n d_Rf_apart_17 (by omega) (by omega) (fun c17 => ?_) (fun c17 => ?_) | refine Run.icmp_le d_Rf_apart_17 (fun c17 => ?_) (fun c17 => ?_)
    · refine Run.iload_n d_Rf_apart_27 rfl ?_
      refine Run.iret d_Rf_apart_28 rfl rfl ?_
      exact ret_n (by rw [← e]; repeat (first | omega | split))
    · refine Run.bipush (v := nI 8) d_Rf_apart_20 bp_8 ?_
      refine Run.iload_n d_Rf_apart_22 rfl ?_
      first | refine Run.isub_n d_Rf_apart_23 (by omega) ?_ | refine Run.isub d_Rf_apart_23 ?_
      refine Run.goto d_Rf_apart_24 ?_
      refine Run.iret d_Rf_apart_28 rfl rfl ?_
      exact ret_n (by rw [← e]; repeat (first | omega | split))
theorem c_Rf_showsBy {t o k q a : Nat} (ht : t < 5) (ho : o < 8) (hk : k < 4) (hq : q < 4) (ha : a < 8) : Call X (d + 1) 0 0 M_Rf_showsBy [.int (nI t), .int (nI o), .int (nI k), .int (nI q), .int (nI a)] h (Ret (.int (bI (showN t o k q a))) h) := by
  show Run X (d + 1) 0 0 M_Rf_showsBy 0 [some (.int (nI t)), some (.int (nI o)), some (.int (nI k)), some (.int (nI q)), some (.int (nI a)), none] [] h _
  have e1 := ap_lt a (o % 8)
  have e2 := ap_lt a ((o + 4) % 8)
  have e3 : o % 8 = o := by omega
  rw [e3] at e1
  have h38 : ∀ z, z = rc k → ¬ q = 3 → ¬ (q = 2 ∧ t = 2) → Run X (d + 1) 0 0 M_Rf_showsBy 38 [some (.int (nI t)), some (.int (nI o)), some (.int (nI k)), some (.int (nI q)), some (.int (nI a)), none] [.int (nI z)] h (Ret (.int (bI (showN t o k q a))) h) := by
    intro z hz q1 q2
    have hz2 := rc_le k
    have e4 : showN t o k q a = (decide (ap a o ≤ z + (if q = 1 then 1 else 0)) || (decide (k = 2) && decide (ap a ((o + 4) % 8) ≤ z + (if q = 1 then 1 else 0)))) := by
      unfold showN
      rw [if_neg q1, if_neg q2, e3, hz]
    rw [e4]
    refine Run.iload_n d_Rf_showsBy_38 rfl ?_
    refine Run.iconst (v := nI 1) d_Rf_showsBy_39 ic_1 ?_
    first | refine Run.icmp_ne_n d_Rf_showsBy_40 (by omega) (by omega) (fun c40 => ?_) (fun c40 => ?_) | refine Run.icmp_ne d_Rf_showsBy_40 (fun c40 => ?_) (fun c40 => ?_)
    · refine Run.iconst (v := nI 0) d_Rf_showsBy_47 ic_0 ?_
      first | refine Run.iadd_n d_Rf_showsBy_48 ?_ | refine Run.iadd d_Rf_showsBy_48 ?_
      refine Run.istore d_Rf_showsBy_49 rfl rfl ?_
      show Run _ _ _ _ _ _ [_, _, _, _, _, _] _ _ _
      refine Run.iload_n d_Rf_showsBy_51 rfl ?_
      refine Run.iload d_Rf_showsBy_52 rfl ?_
      refine Run.S2r d_Rf_showsBy_54 lk_Rf_111 cm_Rf_apart st_Rf_apart (Nat.le_of_ble_eq_true rfl) (Nat.le_of_ble_eq_true rfl) (c_Rf_apart (by omega) (by omega)) ?_
      refine Run.iload d_Rf_showsBy_57 rfl ?_
      first | refine Run.icmp_le_n d_Rf_showsBy_59 (by omega) (by omega) (fun c59 => ?_) (fun c59 => ?_) | refine Run.icmp_le d_Rf_showsBy_59 (fun c59 => ?_) (fun c59 => ?_)
      · refine Run.iconst (v := nI 1) d_Rf_showsBy_83 ic_1 ?_
        refine Run.goto d_Rf_showsBy_84 ?_
        refine Run.iret d_Rf_showsBy_88 rfl (by first | exact bI_nar _ | decide +kernel) ?_
        first | exact ret_t (by simp_all; done) | exact ret_t (by simp_all; omega) | exact ret_f (by simp_all; done) | exact ret_f (by simp_all; omega)
      · refine Run.iload_n d_Rf_showsBy_62 rfl ?_
        refine Run.iconst (v := nI 2) d_Rf_showsBy_63 ic_2 ?_
        first | refine Run.icmp_ne_n d_Rf_showsBy_64 (by omega) (by omega) (fun c64 => ?_) (fun c64 => ?_) | refine Run.icmp_ne d_Rf_showsBy_64 (fun c64 => ?_) (fun c64 => ?_)
        · refine Run.iconst (v := nI 0) d_Rf_showsBy_87 ic_0 ?_
          refine Run.iret d_Rf_showsBy_88 rfl (by first | exact bI_nar _ | decide +kernel) ?_
          first | exact ret_t (by simp_all; done) | exact ret_t (by simp_all; omega) | exact ret_f (by simp_all; done) | exact ret_f (by simp_all; omega)
        · refine Run.iload_n d_Rf_showsBy_67 rfl ?_
          refine Run.iconst (v := nI 4) d_Rf_showsBy_68 ic_4 ?_
          first | refine Run.iadd_n d_Rf_showsBy_69 ?_ | refine Run.iadd d_Rf_showsBy_69 ?_
          refine Run.bipush (v := nI 8) d_Rf_showsBy_70 bp_8 ?_
          first | refine Run.irem_n d_Rf_showsBy_72 (by omega) (by omega) (by omega) ?_ | refine Run.irem d_Rf_showsBy_72 (by decide +kernel) ?_
          refine Run.iload d_Rf_showsBy_73 rfl ?_
          refine Run.S2r d_Rf_showsBy_75 lk_Rf_111 cm_Rf_apart st_Rf_apart (Nat.le_of_ble_eq_true rfl) (Nat.le_of_ble_eq_true rfl) (c_Rf_apart (by omega) (by omega)) ?_
          refine Run.iload d_Rf_showsBy_78 rfl ?_
          first | refine Run.icmp_gt_n d_Rf_showsBy_80 (by omega) (by omega) (fun c80 => ?_) (fun c80 => ?_) | refine Run.icmp_gt d_Rf_showsBy_80 (fun c80 => ?_) (fun c80 => ?_)
          · refine Run.iconst (v := nI 0) d_Rf_showsBy_87 ic_0 ?_
            refine Run.iret d_Rf_showsBy_88 rfl (by first | exact bI_nar _ | decide +kernel) ?_
            first | exact ret_t (by simp_all; done) | exact ret_t (by simp_all; omega) | exact ret_f (by simp_all; done) | exact ret_f (by simp_all; omega)
          · refine Run.iconst (v := nI 1) d_Rf_showsBy_83 ic_1 ?_
            refine Run.goto d_Rf_showsBy_84 ?_
            refine Run.iret d_Rf_showsBy_88 rfl (by first | exact bI_nar _ | decide +kernel) ?_
            first | exact ret_t (by simp_all; done) | exact ret_t (by simp_all; omega) | exact ret_f (by simp_all; done) | exact ret_f (by simp_all; omega)
    · refine Run.iconst (v := nI 1) d_Rf_showsBy_43 ic_1 ?_
      refine Run.goto d_Rf_showsBy_44 ?_
      first | refine Run.iadd_n d_Rf_showsBy_48 ?_ | refine Run.iadd d_Rf_showsBy_48 ?_
      refine Run.istore d_Rf_showsBy_49 rfl rfl ?_
      show Run _ _ _ _ _ _ [_, _, _, _, _, _] _ _ _
      refine Run.iload_n d_Rf_showsBy_51 rfl ?_
      refine Run.iload d_Rf_showsBy_52 rfl ?_
      refine Run.S2r d_Rf_showsBy_54 lk_Rf_111 cm_Rf_apart st_Rf_apart (Nat.le_of_ble_eq_true rfl) (Nat.le_of_ble_eq_true rfl) (c_Rf_apart (by omega) (by omega)) ?_
      refine Run.iload d_Rf_showsBy_57 rfl ?_
      first | refine Run.icmp_le_n d_Rf_showsBy_59 (by omega) (by omega) (fun c59 => ?_) (fun c59 => ?_) | refine Run.icmp_le d_Rf_showsBy_59 (fun c59 => ?_) (fun c59 => ?_)
      · refine Run.iconst (v := nI 1) d_Rf_showsBy_83 ic_1 ?_
        refine Run.goto d_Rf_showsBy_84 ?_
        refine Run.iret d_Rf_showsBy_88 rfl (by first | exact bI_nar _ | decide +kernel) ?_
        first | exact ret_t (by simp_all; done) | exact ret_t (by simp_all; omega) | exact ret_f (by simp_all; done) | exact ret_f (by simp_all; omega)
      · refine Run.iload_n d_Rf_showsBy_62 rfl ?_
        refine Run.iconst (v := nI 2) d_Rf_showsBy_63 ic_2 ?_
        first | refine Run.icmp_ne_n d_Rf_showsBy_64 (by omega) (by omega) (fun c64 => ?_) (fun c64 => ?_) | refine Run.icmp_ne d_Rf_showsBy_64 (fun c64 => ?_) (fun c64 => ?_)
        · refine Run.iconst (v := nI 0) d_Rf_showsBy_87 ic_0 ?_
          refine Run.iret d_Rf_showsBy_88 rfl (by first | exact bI_nar _ | decide +kernel) ?_
          first | exact ret_t (by simp_all; done) | exact ret_t (by simp_all; omega) | exact ret_f (by simp_all; done) | exact ret_f (by simp_all; omega)
        · refine Run.iload_n d_Rf_showsBy_67 rfl ?_
          refine Run.iconst (v := nI 4) d_Rf_showsBy_68 ic_4 ?_
          first | refine Run.iadd_n d_Rf_showsBy_69 ?_ | refine Run.iadd d_Rf_showsBy_69 ?_
          refine Run.bipush (v := nI 8) d_Rf_showsBy_70 bp_8 ?_
          first | refine Run.irem_n d_Rf_showsBy_72 (by omega) (by omega) (by omega) ?_ | refine Run.irem d_Rf_showsBy_72 (by decide +kernel) ?_
          refine Run.iload d_Rf_showsBy_73 rfl ?_
          refine Run.S2r d_Rf_showsBy_75 lk_Rf_111 cm_Rf_apart st_Rf_apart (Nat.le_of_ble_eq_true rfl) (Nat.le_of_ble_eq_true rfl) (c_Rf_apart (by omega) (by omega)) ?_
          refine Run.iload d_Rf_showsBy_78 rfl ?_
          first | refine Run.icmp_gt_n d_Rf_showsBy_80 (by omega) (by omega) (fun c80 => ?_) (fun c80 => ?_) | refine Run.icmp_gt d_Rf_showsBy_80 (fun c80 => ?_) (fun c80 => ?_)
          · refine Run.iconst (v := nI 0) d_Rf_showsBy_87 ic_0 ?_
            refine Run.iret d_Rf_showsBy_88 rfl (by first | exact bI_nar _ | decide +kernel) ?_
            first | exact ret_t (by simp_all; done) | exact ret_t (by simp_all; omega) | exact ret_f (by simp_all; done) | exact ret_f (by simp_all; omega)
          · refine Run.iconst (v := nI 1) d_Rf_showsBy_83 ic_1 ?_
            refine Run.goto d_Rf_showsBy_84 ?_
            refine Run.iret d_Rf_showsBy_88 rfl (by first | exact bI_nar _ | decide +kernel) ?_
            first | exact ret_t (by simp_all; done) | exact ret_t (by simp_all; omega) | exact ret_f (by simp_all; done) | exact ret_f (by simp_all; omega)
  refine Run.iload_n d_Rf_showsBy_0 rfl ?_
  refine Run.iconst (v := nI 3) d_Rf_showsBy_1 ic_3 ?_
  first | refine Run.icmp_ne_n d_Rf_showsBy_2 (by omega) (by omega) (fun c2 => ?_) (fun c2 => ?_) | refine Run.icmp_ne d_Rf_showsBy_2 (fun c2 => ?_) (fun c2 => ?_)
  · refine Run.iload_n d_Rf_showsBy_7 rfl ?_
    refine Run.iconst (v := nI 2) d_Rf_showsBy_8 ic_2 ?_
    first | refine Run.icmp_ne_n d_Rf_showsBy_9 (by omega) (by omega) (fun c9 => ?_) (fun c9 => ?_) | refine Run.icmp_ne d_Rf_showsBy_9 (fun c9 => ?_) (fun c9 => ?_)
    · refine Run.iload_n d_Rf_showsBy_19 rfl ?_
      refine Run.iconst (v := nI 1) d_Rf_showsBy_20 ic_1 ?_
      first | refine Run.icmp_ne_n d_Rf_showsBy_21 (by omega) (by omega) (fun c21 => ?_) (fun c21 => ?_) | refine Run.icmp_ne d_Rf_showsBy_21 (fun c21 => ?_) (fun c21 => ?_)
      · refine Run.iload_n d_Rf_showsBy_28 rfl ?_
        refine Run.iconst (v := nI 3) d_Rf_showsBy_29 ic_3 ?_
        first | refine Run.icmp_ne_n d_Rf_showsBy_30 (by omega) (by omega) (fun c30 => ?_) (fun c30 => ?_) | refine Run.icmp_ne d_Rf_showsBy_30 (fun c30 => ?_) (fun c30 => ?_)
        · refine Run.iconst (v := nI 1) d_Rf_showsBy_37 ic_1 ?_
          exact h38 _ (by simp_all [rc]) (by omega) (by omega)
        · refine Run.iconst (v := nI 2) d_Rf_showsBy_33 ic_2 ?_
          refine Run.goto d_Rf_showsBy_34 ?_
          exact h38 _ (by simp_all [rc]) (by omega) (by omega)
      · refine Run.iconst (v := nI 0) d_Rf_showsBy_24 ic_0 ?_
        refine Run.goto d_Rf_showsBy_25 ?_
        exact h38 _ (by simp_all [rc]) (by omega) (by omega)
    · refine Run.iload_n d_Rf_showsBy_12 rfl ?_
      refine Run.iconst (v := nI 2) d_Rf_showsBy_13 ic_2 ?_
      first | refine Run.icmp_ne_n d_Rf_showsBy_14 (by omega) (by omega) (fun c14 => ?_) (fun c14 => ?_) | refine Run.icmp_ne d_Rf_showsBy_14 (fun c14 => ?_) (fun c14 => ?_)
      · refine Run.iload_n d_Rf_showsBy_19 rfl ?_
        refine Run.iconst (v := nI 1) d_Rf_showsBy_20 ic_1 ?_
        first | refine Run.icmp_ne_n d_Rf_showsBy_21 (by omega) (by omega) (fun c21 => ?_) (fun c21 => ?_) | refine Run.icmp_ne d_Rf_showsBy_21 (fun c21 => ?_) (fun c21 => ?_)
        · refine Run.iload_n d_Rf_showsBy_28 rfl ?_
          refine Run.iconst (v := nI 3) d_Rf_showsBy_29 ic_3 ?_
          first | refine Run.icmp_ne_n d_Rf_showsBy_30 (by omega) (by omega) (fun c30 => ?_) (fun c30 => ?_) | refine Run.icmp_ne d_Rf_showsBy_30 (fun c30 => ?_) (fun c30 => ?_)
          · refine Run.iconst (v := nI 1) d_Rf_showsBy_37 ic_1 ?_
            exact h38 _ (by simp_all [rc]) (by omega) (by omega)
          · refine Run.iconst (v := nI 2) d_Rf_showsBy_33 ic_2 ?_
            refine Run.goto d_Rf_showsBy_34 ?_
            exact h38 _ (by simp_all [rc]) (by omega) (by omega)
        · refine Run.iconst (v := nI 0) d_Rf_showsBy_24 ic_0 ?_
          refine Run.goto d_Rf_showsBy_25 ?_
          exact h38 _ (by simp_all [rc]) (by omega) (by omega)
      · refine Run.iconst (v := nI 1) d_Rf_showsBy_17 ic_1 ?_
        refine Run.iret d_Rf_showsBy_18 rfl (by first | exact bI_nar _ | decide +kernel) ?_
        first | exact ret_f (by unfold showN; rw [if_pos c2]) | exact ret_t (by unfold showN; rw [if_neg (by omega), if_pos (by omega)])
  · refine Run.iconst (v := nI 0) d_Rf_showsBy_5 ic_0 ?_
    refine Run.iret d_Rf_showsBy_6 rfl (by first | exact bI_nar _ | decide +kernel) ?_
    first | exact ret_f (by unfold showN; rw [if_pos c2]) | exact ret_t (by unfold showN; rw [if_neg (by omega), if_pos (by omega)])
theorem c_Rf_showsTo {i j a : Nat} (hc : coOK c) (hr : RfAt h c) (hi : i < npC c) (hj : j < nhC c) (ha : a < 8) : Call X (d + 2) 0 0 M_Rf_showsTo [.ref 44, .int (nI i), .int (nI j), .int (nI a)] h (Ret (.int (bI (sh c i j a))) h) := by
  show Run X (d + 2) 0 0 M_Rf_showsTo 0 [some (.ref 44), some (.int (nI i)), some (.int (nI j)), some (.int (nI a))] [] h _
  obtain ⟨ts, pl, rl, rh, rp, ac, tu, sd, mm, mf, rm, rf, fh, fp, g0, g1, g2, hv1, hv2⟩ := hr
  obtain ⟨b1, b2, b3, b4⟩ := hc
  refine Run.aload_n d_Rf_showsTo_0 rfl ?_
  refine Run.getf d_Rf_showsTo_1 fl_Rf_16 (by first | rfl | assumption) (by rfl) ?_
  refine Run.iconst (v := nI 3) d_Rf_showsTo_4 ic_3 ?_
  refine Run.iload_n d_Rf_showsTo_5 rfl ?_
  first | refine Run.imul_n d_Rf_showsTo_6 ?_ | refine Run.imul d_Rf_showsTo_6 ?_
  refine Run.iald_n d_Rf_showsTo_7 (by first | rfl | assumption) (by omega) (by omega) ?_
  rw [(hv2 i hi).1]
  refine Run.aload_n d_Rf_showsTo_8 rfl ?_
  refine Run.getf d_Rf_showsTo_9 fl_Rf_16 (by first | rfl | assumption) (by rfl) ?_
  refine Run.iconst (v := nI 3) d_Rf_showsTo_12 ic_3 ?_
  refine Run.iload_n d_Rf_showsTo_13 rfl ?_
  first | refine Run.imul_n d_Rf_showsTo_14 ?_ | refine Run.imul d_Rf_showsTo_14 ?_
  refine Run.iconst (v := nI 1) d_Rf_showsTo_15 ic_1 ?_
  first | refine Run.iadd_n d_Rf_showsTo_16 ?_ | refine Run.iadd d_Rf_showsTo_16 ?_
  refine Run.iald_n d_Rf_showsTo_17 (by first | rfl | assumption) (by omega) (by omega) ?_
  rw [(hv2 i hi).2.1]
  refine Run.aload_n d_Rf_showsTo_18 rfl ?_
  refine Run.getf d_Rf_showsTo_19 fl_Rf_16 (by first | rfl | assumption) (by rfl) ?_
  refine Run.iconst (v := nI 3) d_Rf_showsTo_22 ic_3 ?_
  refine Run.iload_n d_Rf_showsTo_23 rfl ?_
  first | refine Run.imul_n d_Rf_showsTo_24 ?_ | refine Run.imul d_Rf_showsTo_24 ?_
  refine Run.iconst (v := nI 2) d_Rf_showsTo_25 ic_2 ?_
  first | refine Run.iadd_n d_Rf_showsTo_26 ?_ | refine Run.iadd d_Rf_showsTo_26 ?_
  refine Run.iald_n d_Rf_showsTo_27 (by first | rfl | assumption) (by omega) (by omega) ?_
  rw [(hv2 i hi).2.2]
  refine Run.aload_n d_Rf_showsTo_28 rfl ?_
  refine Run.getf d_Rf_showsTo_29 fl_Rf_13 (by first | rfl | assumption) (by rfl) ?_
  refine Run.iload_n d_Rf_showsTo_32 rfl ?_
  refine Run.iald_n d_Rf_showsTo_33 (by first | rfl | assumption) (by omega) (by omega) ?_
  rw [hv1 j hj]
  refine Run.iload_n d_Rf_showsTo_34 rfl ?_
  refine Run.S5r d_Rf_showsTo_35 lk_Rf_115 cm_Rf_showsBy st_Rf_showsBy (Nat.le_of_ble_eq_true rfl) (Nat.le_of_ble_eq_true rfl) (c_Rf_showsBy (b4 i hi).1 (b4 i hi).2.1 (b4 i hi).2.2 (b3 j hj) ha) ?_
  refine Run.iret d_Rf_showsTo_38 rfl (by first | exact bI_nar _ | decide +kernel) ?_
  exact ⟨rfl, rfl⟩
theorem c_Rf_angleOf {i : Nat} (hc : coOK c) (hp : pgOK c p) (hg : PgAt h k c p) (hi : i < npC c) : Call X d 0 0 M_Rf_angleOf [.ref (k + 1), .int (nI i)] h (Ret (.int (nI (angN p i))) h) := by
  show Run X d 0 0 M_Rf_angleOf 0 [some (.ref (k + 1)), some (.int (nI i))] [] h _
  obtain ⟨f, g0, hv1, hv2, hv3⟩ := hg
  have b2 := hc.2.1
  have w1 := (hp.2.2 i hi).1
  have w2 := hp.1
  refine Run.aload_n d_Rf_angleOf_0 rfl ?_
  refine Run.iconst (v := nI 0) d_Rf_angleOf_1 ic_0 ?_
  refine Run.iload_n d_Rf_angleOf_2 rfl ?_
  first | refine Run.iadd_n d_Rf_angleOf_3 ?_ | refine Run.iadd d_Rf_angleOf_3 ?_
  rw [Nat.zero_add]
  refine Run.iald_n d_Rf_angleOf_4 (by first | rfl | assumption) (by omega) (by omega) ?_
  rw [(hv1 i hi).1]
  refine Run.aload_n d_Rf_angleOf_5 rfl ?_
  refine Run.bipush (v := nI 12) d_Rf_angleOf_6 bp_12 ?_
  refine Run.iald_n d_Rf_angleOf_8 (by first | rfl | assumption) (by omega) (by omega) ?_
  rw [hv2]
  first | refine Run.iadd_n d_Rf_angleOf_9 ?_ | refine Run.iadd d_Rf_angleOf_9 ?_
  refine Run.bipush (v := nI 8) d_Rf_angleOf_10 bp_8 ?_
  first | refine Run.irem_n d_Rf_angleOf_12 (by omega) (by omega) (by omega) ?_ | refine Run.irem d_Rf_angleOf_12 (by decide +kernel) ?_
  refine Run.iret d_Rf_angleOf_13 rfl rfl ?_
  exact ⟨rfl, rfl⟩
theorem c_Rf_isShown {i : Nat} (hc : coOK c) (hp : pgOK c p) (hr : RfAt h c) (hg : PgAt h k c p) (hi : i < npC c) : Call X (d + 3) 0 0 M_Rf_isShown [.ref 44, .ref (k + 1), .int (nI i)] h (Ret (.int (bI (sh c i (pgW p i) (angN p i)))) h) := by
  show Run X (d + 3) 0 0 M_Rf_isShown 0 [some (.ref 44), some (.ref (k + 1)), some (.int (nI i))] [] h _
  obtain ⟨ts, pl, rl, rh, rp, ac, tu, sd, mm, mf, rm, rf, fh, fp, g0, g1, g2, hu1, hu2⟩ := id hr
  obtain ⟨f, s0, hv1, hv2, hv3⟩ := id hg
  have b2 := hc.2.1
  refine Run.aload_n d_Rf_isShown_0 rfl ?_
  refine Run.iload_n d_Rf_isShown_1 rfl ?_
  refine Run.aload_n d_Rf_isShown_2 rfl ?_
  refine Run.bipush (v := nI 6) d_Rf_isShown_3 bp_6 ?_
  refine Run.iload_n d_Rf_isShown_5 rfl ?_
  first | refine Run.iadd_n d_Rf_isShown_6 ?_ | refine Run.iadd d_Rf_isShown_6 ?_
  refine Run.iald_n d_Rf_isShown_7 (by first | rfl | assumption) (by omega) (by omega) ?_
  rw [(hv1 i hi).2]
  refine Run.aload_n d_Rf_isShown_8 rfl ?_
  refine Run.iload_n d_Rf_isShown_9 rfl ?_
  refine Run.S2r d_Rf_isShown_10 lk_Rf_119 cm_Rf_angleOf st_Rf_angleOf (Nat.le_of_ble_eq_true rfl) (Nat.le_of_ble_eq_true rfl) (c_Rf_angleOf hc hp hg hi) ?_
  refine Run.V3r d_Rf_isShown_13 lk_Rf_123 cm_Rf_showsTo iv_Rf_showsTo rfl (by first | rfl | assumption) (Nat.le_of_ble_eq_true rfl) (Nat.le_of_ble_eq_true rfl) (c_Rf_showsTo hc hr hi (hp.2.2 i hi).2 (Nat.mod_lt _ (by omega))) ?_
  refine Run.iret d_Rf_isShown_16 rfl (by first | exact bI_nar _ | decide +kernel) ?_
  exact ⟨rfl, rfl⟩
theorem c_Rf_seesOf {j s : Nat} (hc : coOK c) (hp : pgOK c p) (hr : RfAt h c) (hg : PgAt h k c p) (hj : j < 100) (hs : s < 2 ^ 31) : Call X (d + 4) 0 0 M_Rf_seesOf [.ref 44, .ref (k + 1), .int (nI j), .int (nI s)] h (Ret (.int (nI (sesN c p j s))) h) := by
  show Run X (d + 4) 0 0 M_Rf_seesOf 0 [some (.ref 44), some (.ref (k + 1)), some (.int (nI j)), some (.int (nI s)), none, none] [] h _
  obtain ⟨ts, pl, rl, rh, rp, ac, tu, sd, mm, mf, rm, rf, fh, fp, g0, g1, g2, hu1, hu2⟩ := id hr
  obtain ⟨f, s0, hv1, hv2, hv3⟩ := id hg
  obtain ⟨b1, b2, b3, b4⟩ := id hc
  refine Run.iconst (v := nI 0) d_Rf_seesOf_0 ic_0 ?_
  refine Run.istore d_Rf_seesOf_1 rfl rfl ?_
  show Run _ _ _ _ _ _ [_, _, _, _, _, _] _ _ _
  refine Run.iconst (v := nI 0) d_Rf_seesOf_3 ic_0 ?_
  refine Run.istore d_Rf_seesOf_4 rfl rfl ?_
  show Run _ _ _ _ _ _ [_, _, _, _, _, _] _ _ _
  refine upto (npC c) (fun i => Run X (d + 4) 0 0 M_Rf_seesOf 6 [some (.ref 44), some (.ref (k + 1)), some (.int (nI j)), some (.int (nI s)), some (.int (nI (itN (sesF c p j s) 0 i))), some (.int (nI i))] [] h _) ?_ 0 (Nat.zero_le _)
  intro i hi ih
  refine Run.iload d_Rf_seesOf_6 rfl ?_
  refine Run.aload_n d_Rf_seesOf_8 rfl ?_
  refine Run.getf d_Rf_seesOf_9 fl_Rf_70 (by first | rfl | assumption) (by rfl) ?_
  first | refine Run.icmp_ge_n d_Rf_seesOf_12 (by omega) (by omega) (fun c12 => ?_) (fun c12 => ?_) | refine Run.icmp_ge d_Rf_seesOf_12 (fun c12 => ?_) (fun c12 => ?_)
  · refine Run.iload d_Rf_seesOf_71 rfl ?_
    refine Run.iret d_Rf_seesOf_73 rfl rfl ?_
    exact ret_n (by rw [show i = npC c by omega]; rfl)
  · refine Run.iload d_Rf_seesOf_15 rfl ?_
    refine Run.iload_n d_Rf_seesOf_17 rfl ?_
    refine Run.iload d_Rf_seesOf_18 rfl ?_
    refine Run.S2r d_Rf_seesOf_20 lk_Rf_127 cm_Rf_has st_Rf_has (Nat.le_of_ble_eq_true rfl) (Nat.le_of_ble_eq_true rfl) (c_Rf_has (by omega) (by omega)) ?_
    first | refine Run.if_eq_b d_Rf_seesOf_23 (fun c23 => ?_) (fun c23 => ?_) | refine Run.if_eq_n d_Rf_seesOf_23 (by omega) (fun c23 => ?_) (fun c23 => ?_) | refine Run.if_eq d_Rf_seesOf_23 (fun c23 => ?_) (fun c23 => ?_)
    · refine Run.iconst (v := nI 0) d_Rf_seesOf_61 ic_0 ?_
      first | refine Run.ior_n d_Rf_seesOf_62 ?_ | refine Run.ior d_Rf_seesOf_62 ?_
      refine Run.istore d_Rf_seesOf_63 rfl rfl ?_
      show Run _ _ _ _ _ _ [_, _, _, _, _, _] _ _ _
      first | refine Run.iinc_n d_Rf_seesOf_65 ic_1 rfl rfl ?_ | refine Run.iinc d_Rf_seesOf_65 rfl rfl rfl ?_
      show Run _ _ _ _ _ _ [_, _, _, _, _, _] _ _ _
      refine Run.goto d_Rf_seesOf_68 ?_
      first
      | (refine run_cg ?_ (ih c12); simp [itN, sesF, c23]; done)
      | (refine run_cg ?_ (ih c12); simp [itN, sesF, c34]; done)
      | (refine run_cg ?_ (ih c12); simp [itN, sesF, c44]; done)
      | (refine run_cg ?_ (ih c12); simp [itN, sesF, c23, c34, c44]; done)
    · refine Run.aload_n d_Rf_seesOf_26 rfl ?_
      refine Run.bipush (v := nI 6) d_Rf_seesOf_27 bp_6 ?_
      refine Run.iload d_Rf_seesOf_29 rfl ?_
      first | refine Run.iadd_n d_Rf_seesOf_31 ?_ | refine Run.iadd d_Rf_seesOf_31 ?_
      refine Run.iald_n d_Rf_seesOf_32 (by first | rfl | assumption) (by omega) (by omega) ?_
      rw [(hv1 i c12).2]
      have w1 := (hp.2.2 i c12).2
      refine Run.iload_n d_Rf_seesOf_33 rfl ?_
      first | refine Run.icmp_ne_n d_Rf_seesOf_34 (by omega) (by omega) (fun c34 => ?_) (fun c34 => ?_) | refine Run.icmp_ne d_Rf_seesOf_34 (fun c34 => ?_) (fun c34 => ?_)
      · refine Run.iconst (v := nI 0) d_Rf_seesOf_61 ic_0 ?_
        first | refine Run.ior_n d_Rf_seesOf_62 ?_ | refine Run.ior d_Rf_seesOf_62 ?_
        refine Run.istore d_Rf_seesOf_63 rfl rfl ?_
        show Run _ _ _ _ _ _ [_, _, _, _, _, _] _ _ _
        first | refine Run.iinc_n d_Rf_seesOf_65 ic_1 rfl rfl ?_ | refine Run.iinc d_Rf_seesOf_65 rfl rfl rfl ?_
        show Run _ _ _ _ _ _ [_, _, _, _, _, _] _ _ _
        refine Run.goto d_Rf_seesOf_68 ?_
        first
        | (refine run_cg ?_ (ih c12); simp [itN, sesF, c23]; done)
        | (refine run_cg ?_ (ih c12); simp [itN, sesF, c34]; done)
        | (refine run_cg ?_ (ih c12); simp [itN, sesF, c44]; done)
        | (refine run_cg ?_ (ih c12); simp [itN, sesF, c23, c34, c44]; done)
      · refine Run.aload_n d_Rf_seesOf_37 rfl ?_
        refine Run.aload_n d_Rf_seesOf_38 rfl ?_
        refine Run.iload d_Rf_seesOf_39 rfl ?_
        refine Run.V2r d_Rf_seesOf_41 lk_Rf_131 cm_Rf_isShown iv_Rf_isShown rfl (by first | rfl | assumption) (Nat.le_of_ble_eq_true rfl) (Nat.le_of_ble_eq_true rfl) (c_Rf_isShown hc hp hr hg c12) ?_
        rw [c34]
        first | refine Run.if_eq_b d_Rf_seesOf_44 (fun c44 => ?_) (fun c44 => ?_) | refine Run.if_eq_n d_Rf_seesOf_44 (by omega) (fun c44 => ?_) (fun c44 => ?_) | refine Run.if_eq d_Rf_seesOf_44 (fun c44 => ?_) (fun c44 => ?_)
        · refine Run.iconst (v := nI 0) d_Rf_seesOf_61 ic_0 ?_
          first | refine Run.ior_n d_Rf_seesOf_62 ?_ | refine Run.ior d_Rf_seesOf_62 ?_
          refine Run.istore d_Rf_seesOf_63 rfl rfl ?_
          show Run _ _ _ _ _ _ [_, _, _, _, _, _] _ _ _
          first | refine Run.iinc_n d_Rf_seesOf_65 ic_1 rfl rfl ?_ | refine Run.iinc d_Rf_seesOf_65 rfl rfl rfl ?_
          show Run _ _ _ _ _ _ [_, _, _, _, _, _] _ _ _
          refine Run.goto d_Rf_seesOf_68 ?_
          first
          | (refine run_cg ?_ (ih c12); simp [itN, sesF, c23]; done)
          | (refine run_cg ?_ (ih c12); simp [itN, sesF, c34]; done)
          | (refine run_cg ?_ (ih c12); simp [itN, sesF, c44]; done)
          | (refine run_cg ?_ (ih c12); simp [itN, sesF, c23, c34, c44]; done)
        · refine Run.iconst (v := nI 1) d_Rf_seesOf_47 ic_1 ?_
          refine Run.aload_n d_Rf_seesOf_48 rfl ?_
          refine Run.getf d_Rf_seesOf_49 fl_Rf_16 (by first | rfl | assumption) (by rfl) ?_
          refine Run.iconst (v := nI 3) d_Rf_seesOf_52 ic_3 ?_
          refine Run.iload d_Rf_seesOf_53 rfl ?_
          first | refine Run.imul_n d_Rf_seesOf_55 ?_ | refine Run.imul d_Rf_seesOf_55 ?_
          refine Run.iald_n d_Rf_seesOf_56 (by first | rfl | assumption) (by omega) (by omega) ?_
          rw [(hu2 i c12).1]
          have w2 := (b4 i c12).1
          have w3 : 2 ^ ptC c i < 2 ^ 5 := Nat.pow_lt_pow_right (by omega) w2
          first | refine Run.ishl_n d_Rf_seesOf_57 (by omega) (by omega) ?_ | refine Run.ishl d_Rf_seesOf_57 ?_
          refine Run.goto d_Rf_seesOf_58 ?_
          first | refine Run.ior_n d_Rf_seesOf_62 ?_ | refine Run.ior d_Rf_seesOf_62 ?_
          refine Run.istore d_Rf_seesOf_63 rfl rfl ?_
          show Run _ _ _ _ _ _ [_, _, _, _, _, _] _ _ _
          first | refine Run.iinc_n d_Rf_seesOf_65 ic_1 rfl rfl ?_ | refine Run.iinc d_Rf_seesOf_65 rfl rfl rfl ?_
          show Run _ _ _ _ _ _ [_, _, _, _, _, _] _ _ _
          refine Run.goto d_Rf_seesOf_68 ?_
          first
          | (refine run_cg ?_ (ih c12); simp [itN, sesF, c23]; done)
          | (refine run_cg ?_ (ih c12); simp [itN, sesF, c34]; done)
          | (refine run_cg ?_ (ih c12); simp [itN, sesF, c44]; done)
          | (refine run_cg ?_ (ih c12); simp [itN, sesF, c23, c34, c44]; done)
theorem c_Rf_lookers (hc : coOK c) (hp : pgOK c p) (hr : RfAt h c) (hg : PgAt h k c p) : Call X (d + 5) 0 0 M_Rf_lookers [.ref 44, .ref (k + 1)] h (Ret (.int (nI (lookN c p))) h) := by
  show Run X (d + 5) 0 0 M_Rf_lookers 0 [some (.ref 44), some (.ref (k + 1)), none, none] [] h _
  obtain ⟨ts, pl, rl, rh, rp, ac, tu, sd, mm, mf, rm, rf, fh, fp, g0, g1, g2, hu1, hu2⟩ := id hr
  obtain ⟨b1, b2, b3, b4⟩ := id hc
  refine Run.iconst (v := nI 0) d_Rf_lookers_0 ic_0 ?_
  refine Run.istore_n d_Rf_lookers_1 rfl rfl ?_
  show Run _ _ _ _ _ _ [_, _, _, _] _ _ _
  refine Run.iconst (v := nI 0) d_Rf_lookers_2 ic_0 ?_
  refine Run.istore_n d_Rf_lookers_3 rfl rfl ?_
  show Run _ _ _ _ _ _ [_, _, _, _] _ _ _
  refine upto (nhC c) (fun i => Run X (d + 5) 0 0 M_Rf_lookers 4 [some (.ref 44), some (.ref (k + 1)), some (.int (nI (itN (lookF c p) 0 i))), some (.int (nI i))] [] h _) ?_ 0 (Nat.zero_le _)
  intro i hi ih
  have w1 := seenN_lt hc p i
  refine Run.iload_n d_Rf_lookers_4 rfl ?_
  refine Run.aload_n d_Rf_lookers_5 rfl ?_
  refine Run.getf d_Rf_lookers_6 fl_Rf_63 (by first | rfl | assumption) (by rfl) ?_
  first | refine Run.icmp_ge_n d_Rf_lookers_9 (by omega) (by omega) (fun c9 => ?_) (fun c9 => ?_) | refine Run.icmp_ge d_Rf_lookers_9 (fun c9 => ?_) (fun c9 => ?_)
  · refine Run.iload_n d_Rf_lookers_43 rfl ?_
    refine Run.iret d_Rf_lookers_44 rfl rfl ?_
    exact ret_n (by rw [show i = nhC c by omega]; rfl)
  · refine Run.iload_n d_Rf_lookers_12 rfl ?_
    refine Run.aload_n d_Rf_lookers_13 rfl ?_
    refine Run.aload_n d_Rf_lookers_14 rfl ?_
    refine Run.iload_n d_Rf_lookers_15 rfl ?_
    refine Run.bipush (v := nI 63) d_Rf_lookers_16 bp_63 ?_
    refine Run.V3r d_Rf_lookers_18 lk_Rf_135 cm_Rf_seesOf iv_Rf_seesOf rfl (by first | rfl | assumption) (Nat.le_of_ble_eq_true rfl) (Nat.le_of_ble_eq_true rfl) (c_Rf_seesOf hc hp hr hg (by omega) (by omega)) ?_
    rw [sesN_63 b2]
    refine Run.iconst (v := nI 2) d_Rf_lookers_21 ic_2 ?_
    refine Run.S2r d_Rf_lookers_22 lk_Rf_127 cm_Rf_has st_Rf_has (Nat.le_of_ble_eq_true rfl) (Nat.le_of_ble_eq_true rfl) (c_Rf_has (by omega) (by omega)) ?_
    first | refine Run.if_eq_b d_Rf_lookers_25 (fun c25 => ?_) (fun c25 => ?_) | refine Run.if_eq_n d_Rf_lookers_25 (by omega) (fun c25 => ?_) (fun c25 => ?_) | refine Run.if_eq d_Rf_lookers_25 (fun c25 => ?_) (fun c25 => ?_)
    · refine Run.iconst (v := nI 0) d_Rf_lookers_34 ic_0 ?_
      first | refine Run.ior_n d_Rf_lookers_35 ?_ | refine Run.ior d_Rf_lookers_35 ?_
      refine Run.istore_n d_Rf_lookers_36 rfl rfl ?_
      show Run _ _ _ _ _ _ [_, _, _, _] _ _ _
      first | refine Run.iinc_n d_Rf_lookers_37 ic_1 rfl rfl ?_ | refine Run.iinc d_Rf_lookers_37 rfl rfl rfl ?_
      show Run _ _ _ _ _ _ [_, _, _, _] _ _ _
      refine Run.goto d_Rf_lookers_40 ?_
      exact run_cg (by simp [itN, lookF, c25]) (ih c9)
    · refine Run.iconst (v := nI 1) d_Rf_lookers_28 ic_1 ?_
      refine Run.iload_n d_Rf_lookers_29 rfl ?_
      have w3 : 2 ^ i < 2 ^ 4 := Nat.pow_lt_pow_right (by omega) (by omega)
      first | refine Run.ishl_n d_Rf_lookers_30 (by omega) (by omega) ?_ | refine Run.ishl d_Rf_lookers_30 ?_
      refine Run.goto d_Rf_lookers_31 ?_
      first | refine Run.ior_n d_Rf_lookers_35 ?_ | refine Run.ior d_Rf_lookers_35 ?_
      refine Run.istore_n d_Rf_lookers_36 rfl rfl ?_
      show Run _ _ _ _ _ _ [_, _, _, _] _ _ _
      first | refine Run.iinc_n d_Rf_lookers_37 ic_1 rfl rfl ?_ | refine Run.iinc d_Rf_lookers_37 rfl rfl rfl ?_
      show Run _ _ _ _ _ _ [_, _, _, _] _ _ _
      refine Run.goto d_Rf_lookers_40 ?_
      exact run_cg (by simp [itN, lookF, c25]) (ih c9)
theorem c_Rf_together {s : Nat} (hc : coOK c) (hp : pgOK c p) (hr : RfAt h c) (hg : PgAt h k c p) (hs : s < 2 ^ 31) : Call X (d + 5) 0 0 M_Rf_together [.ref 44, .ref (k + 1), .int (nI s)] h (Ret (.int (nI (tgsN c p s))) h) := by
  show Run X (d + 5) 0 0 M_Rf_together 0 [some (.ref 44), some (.ref (k + 1)), some (.int (nI s)), none, none] [] h _
  obtain ⟨ts, pl, rl, rh, rp, ac, tu, sd, mm, mf, rm, rf, fh, fp, g0, g1, g2, hu1, hu2⟩ := id hr
  obtain ⟨b1, b2, b3, b4⟩ := id hc
  refine Run.iconst (v := nI 0) d_Rf_together_0 ic_0 ?_
  refine Run.istore_n d_Rf_together_1 rfl rfl ?_
  show Run _ _ _ _ _ _ [_, _, _, _, _] _ _ _
  refine Run.iconst (v := nI 0) d_Rf_together_2 ic_0 ?_
  refine Run.istore d_Rf_together_3 rfl rfl ?_
  show Run _ _ _ _ _ _ [_, _, _, _, _] _ _ _
  refine upto (nhC c) (fun i => Run X (d + 5) 0 0 M_Rf_together 5 [some (.ref 44), some (.ref (k + 1)), some (.int (nI s)), some (.int (nI (itN (tgsF c p s) 0 i))), some (.int (nI i))] [] h _) ?_ 0 (Nat.zero_le _)
  intro i hi ih
  refine Run.iload d_Rf_together_5 rfl ?_
  refine Run.aload_n d_Rf_together_7 rfl ?_
  refine Run.getf d_Rf_together_8 fl_Rf_63 (by first | rfl | assumption) (by rfl) ?_
  first | refine Run.icmp_ge_n d_Rf_together_11 (by omega) (by omega) (fun c11 => ?_) (fun c11 => ?_) | refine Run.icmp_ge d_Rf_together_11 (fun c11 => ?_) (fun c11 => ?_)
  · refine Run.iload_n d_Rf_together_31 rfl ?_
    refine Run.iret d_Rf_together_32 rfl rfl ?_
    exact ret_n (by rw [show i = nhC c by omega]; rfl)
  · refine Run.iload_n d_Rf_together_14 rfl ?_
    refine Run.aload_n d_Rf_together_15 rfl ?_
    refine Run.aload_n d_Rf_together_16 rfl ?_
    refine Run.iload d_Rf_together_17 rfl ?_
    refine Run.iload_n d_Rf_together_19 rfl ?_
    refine Run.V3r d_Rf_together_20 lk_Rf_135 cm_Rf_seesOf iv_Rf_seesOf rfl (by first | rfl | assumption) (Nat.le_of_ble_eq_true rfl) (Nat.le_of_ble_eq_true rfl) (c_Rf_seesOf hc hp hr hg (by omega) hs) ?_
    first | refine Run.ior_n d_Rf_together_23 ?_ | refine Run.ior d_Rf_together_23 ?_
    refine Run.istore_n d_Rf_together_24 rfl rfl ?_
    show Run _ _ _ _ _ _ [_, _, _, _, _] _ _ _
    first | refine Run.iinc_n d_Rf_together_25 ic_1 rfl rfl ?_ | refine Run.iinc d_Rf_together_25 rfl rfl rfl ?_
    show Run _ _ _ _ _ _ [_, _, _, _, _] _ _ _
    refine Run.goto d_Rf_together_28 ?_
    exact ih c11
end RSEEN
