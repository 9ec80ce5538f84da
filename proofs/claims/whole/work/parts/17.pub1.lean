/-! ===== public methods that change nothing: both sides against one answer ===== -/
def tn (x : Int32) : Nat := x.toNatClampNeg
theorem tn_nI {i : Nat} (hi : i < 2 ^ 31) : tn (nI i) = i := nI_clamp hi
theorem sw_lt {x : Int32} (q : x < 0) : x.toInt < 0 := by
  have := Int32.lt_iff_toInt_lt.mp q
  exact this
theorem sw_ge {x : Int32} {n : Nat} (hn : n < 2 ^ 31) (q : nI n ≤ x) : (n : Int) ≤ x.toInt := by
  have := Int32.le_iff_toInt_le.mp q
  rwa [nI_toInt hn] at this
/-- which of n cases -/
def swN (x : Int32) (n : Nat) : Option Nat := if inB x n = true then some (tn x) else none
theorem swN_in {j n : Nat} (hj : j < n) (hn : n < 2 ^ 31) : swN (nI j) n = some j := by
  rw [swN, inB_nI (by omega) hn, decide_eq_true hj, if_pos rfl, tn_nI (by omega)]
theorem swN_lt {x : Int32} {n : Nat} (q : x < 0) : swN x n = none := by
  rw [swN, inB, decide_eq_false (Int32.not_le.mpr q)]
  rfl
theorem swN_ge {x : Int32} {n : Nat} (q : nI n ≤ x) : swN x n = none := by
  rw [swN, inB, decide_eq_false (Int32.not_lt.mpr q), Bool.and_false]
  rfl
theorem run_hp {X : Nat × (Nat → Int32)} {d kc ks : Nat} {M : MR} {pc : Nat} {L : List (Option Value)} {S : List Value} {h h2 : AH} {Q : Option Value → AH → Prop} (e : h = h2) (k : Run X d kc ks M pc L S h2 Q) : Run X d kc ks M pc L S h Q := e ▸ k
def showsR (c : CA) (x y a : Int32) : Int32 := if (inB x (npC c) && inB y (nhC c)) = true then (if inB a 8 = true then nI (if sh c (tn x) (tn y) (tn a) = true then 1 else 0) else -2) else -1
def tiltsR (c : CA) (p : PG) (x y : Int32) : Int32 := if (inB x (npC c) && inB y (nhC c)) = true then oI (tiltN c p (tn x) (tn y)) else -1
def findsR (c : CA) (p : PG) (y t : Int32) : Int32 := if inB y (nhC c) = true then (if inB t 5 = true then oI (findN c p (tn y) (tn t)) else -2) else -1
def whenR (c : CA) (p : PG) (y t : Int32) : Int32 := if inB y (nhC c) = true then (if inB t 5 = true then oI (whenN c p (tn y) (tn t)) else -2) else -1
def allF (c : CA) (p : PG) (j : Nat) : Nat → Option Nat → Option Nat := fun i acc => if (hptN c p j).testBit i = true then (match acc, findN c p j i with
  | some a, some b => some (a + b)
  | _, _ => none) else acc
def allN (c : CA) (p : PG) (j : Nat) : Option Nat := itN (allF c p j) (some 0) 5
def allR (c : CA) (p : PG) (y : Int32) : Int32 := if inB y (nhC c) = true then oI (allN c p (tn y)) else -1
theorem allF_none (c : CA) (p : PG) (j i : Nat) : allF c p j i none = none := by
  unfold allF
  split
  · cases findN c p j i <;> rfl
  · rfl
theorem all_none {c : CA} {p : PG} {j i : Nat} (h : itN (allF c p j) (some 0) i = none) : ∀ e, i ≤ e → itN (allF c p j) (some 0) e = none := by
  intro e he
  induction e with
  | zero => rw [show i = 0 by omega] at h; exact h
  | succ e ih =>
    by_cases hie : i = e + 1
    · subst hie; exact h
    · show allF c p j e _ = none
      rw [ih (by omega), allF_none]
theorem all_le {c : CA} {p : PG} {j : Nat} (n a : Nat) (h : itN (allF c p j) (some 0) n = some a) : a ≤ 5 * n := by
  induction n generalizing a with
  | zero => cases h; omega
  | succ n ih =>
    have h' : allF c p j n (itN (allF c p j) (some 0) n) = some a := h
    revert h'
    cases hb : itN (allF c p j) (some 0) n with
    | none => rw [allF_none]; intro q; cases q
    | some b =>
      have := ih b hb
      unfold allF
      split
      · cases hf : findN c p j n with
        | none => intro q; cases q
        | some z =>
          have hz := findN_lt (npC c) z hf
          intro q
          cases q
          omega
      · intro q; cases q; omega
def holderR (c : CA) (p : PG) (y w : Int32) : Int32 := if inB y (nhC c) = true then (match swN w 3 with
  | some 0 => nI (hkC c (tn y))
  | some 1 => nI (heldN c p (tn y))
  | some 2 => nI (seenN c p (tn y))
  | _ => -2) else -1
def pieceR (c : CA) (p : PG) (x w : Int32) : Int32 := if inB x (npC c) = true then (match swN w 7 with
  | some 0 => nI (ptC c (tn x))
  | some 1 => nI (anC c (tn x))
  | some 2 => nI (kdC c (tn x))
  | some 3 => nI (pgT p (tn x))
  | some 4 => nI (pgW p (tn x))
  | some 5 => nI (angN p (tn x))
  | some 6 => nI (if sh c (tn x) (pgW p (tn x)) (angN p (tn x)) = true then 1 else 0)
  | _ => -2) else -1
def aboutR (c : CA) (p : PG) (na nt tl : Nat) (w : Int32) : Int32 := match swN w 9 with
  | some 0 => nI (nhC c)
  | some 1 => nI (npC c)
  | some 2 => nI (pgL p)
  | some 3 => nI (pgH p)
  | some 4 => nI (lookN c p)
  | some 5 => nI (togN c p)
  | some 6 => nI na
  | some 7 => nI nt
  | some 8 => nI tl
  | _ => -2
section PUB1
variable {X : Nat × (Nat → Int32)} {d : Nat} {h : AH} {c : CA} {p : PG} {k : Nat}
theorem c_PM_shows {x y a : Int32} (hc : coOK c) (ht : TlAt h c) : Call X (d + 4) 0 0 M_PM_shows [.ref 1, .int x, .int y, .int a] h (Ret (.int (showsR c x y a)) h) := by
  show Run X (d + 4) 0 0 M_PM_shows 0 [some (.ref 1), some (.int x), some (.int y), some (.int a)] [] h _
  obtain ⟨kt, kd, sd, h0, hco⟩ := id ht
  obtain ⟨fhk, fpt, fan, fkd, fhd, li, g0, -⟩ := id hco
  have b1 := hc.1
  have b2 := hc.2.1
  refine Run.aload_n d_PM_shows_0 rfl ?_
  refine Run.getf d_PM_shows_1 fl_PM_19 (by first | rfl | assumption) (by rfl) ?_
  refine Run.iload_n d_PM_shows_4 rfl ?_
  refine Run.V1r d_PM_shows_5 lk_PM_133 cm_Co_hasPiece iv_Co_hasPiece rfl (by first | rfl | assumption) (Nat.le_of_ble_eq_true rfl) (Nat.le_of_ble_eq_true rfl) (c_Co_hasPiece hco) ?_
  first | refine Run.if_eq_b d_PM_shows_8 (fun c8 => ?_) (fun c8 => ?_) | refine Run.if_eq_n d_PM_shows_8 (by omega) (fun c8 => ?_) (fun c8 => ?_) | refine Run.if_eq d_PM_shows_8 (fun c8 => ?_) (fun c8 => ?_)
  · refine Run.iconst (v := -1) d_PM_shows_22 ic_m1 ?_
    refine Run.iret d_PM_shows_23 rfl rfl ?_
    first
    | exact ret_i (by rw [showsR, c8, Bool.false_and, if_neg (by decide)])
    | exact ret_i (by rw [showsR, c19, Bool.and_false, if_neg (by decide)])
  · refine Run.aload_n d_PM_shows_11 rfl ?_
    refine Run.getf d_PM_shows_12 fl_PM_19 (by first | rfl | assumption) (by rfl) ?_
    refine Run.iload_n d_PM_shows_15 rfl ?_
    refine Run.V1r d_PM_shows_16 lk_PM_119 cm_Co_hasHolder iv_Co_hasHolder rfl (by first | rfl | assumption) (Nat.le_of_ble_eq_true rfl) (Nat.le_of_ble_eq_true rfl) (c_Co_hasHolder hco) ?_
    first | refine Run.if_ne_b d_PM_shows_19 (fun c19 => ?_) (fun c19 => ?_) | refine Run.if_ne_n d_PM_shows_19 (by omega) (fun c19 => ?_) (fun c19 => ?_) | refine Run.if_ne d_PM_shows_19 (fun c19 => ?_) (fun c19 => ?_)
    · obtain ⟨i, hi, rfl⟩ := inB_t (by omega) c8
      obtain ⟨j, hj, rfl⟩ := inB_t (by omega) c19
      have ti : tn (nI i) = i := tn_nI (by omega)
      have tj : tn (nI j) = j := tn_nI (by omega)
      refine Run.iload_n d_PM_shows_24 rfl ?_
      refine Run.bipush (v := nI 8) d_PM_shows_25 bp_8 ?_
      refine Run.S2r d_PM_shows_27 lk_PM_158 cm_PM_isBelow st_PM_isBelow (Nat.le_of_ble_eq_true rfl) (Nat.le_of_ble_eq_true rfl) (c_PM_isBelow) ?_
      first | refine Run.if_ne_b d_PM_shows_30 (fun c30 => ?_) (fun c30 => ?_) | refine Run.if_ne_n d_PM_shows_30 (by omega) (fun c30 => ?_) (fun c30 => ?_) | refine Run.if_ne d_PM_shows_30 (fun c30 => ?_) (fun c30 => ?_)
      · have c30 : inB a 8 = true := c30
        obtain ⟨z, hz, rfl⟩ := inB_t (n := 8) (by omega) c30
        have tz : tn (nI z) = z := tn_nI (by omega)
        refine Run.aload_n d_PM_shows_36 rfl ?_
        refine Run.getf d_PM_shows_37 fl_PM_19 (by first | rfl | assumption) (by rfl) ?_
        refine Run.iload_n d_PM_shows_40 rfl ?_
        refine Run.iload_n d_PM_shows_41 rfl ?_
        refine Run.iload_n d_PM_shows_42 rfl ?_
        refine Run.V3r d_PM_shows_43 lk_PM_162 cm_Co_showsAt iv_Co_showsAt rfl (by first | rfl | assumption) (Nat.le_of_ble_eq_true rfl) (Nat.le_of_ble_eq_true rfl) (c_Co_showsAt hc hco (by omega) (by omega)) ?_
        rw [decide_eq_true hi, decide_eq_true hj, Bool.true_and, Bool.true_and, m8_nI, Nat.mod_eq_of_lt hz]
        first | refine Run.if_eq_b d_PM_shows_46 (fun c46 => ?_) (fun c46 => ?_) | refine Run.if_eq_n d_PM_shows_46 (by omega) (fun c46 => ?_) (fun c46 => ?_) | refine Run.if_eq d_PM_shows_46 (fun c46 => ?_) (fun c46 => ?_)
        · refine Run.iconst (v := nI 0) d_PM_shows_53 ic_0 ?_
          refine Run.iret d_PM_shows_54 rfl rfl ?_
          exact ret_i (by simp [showsR, c8, c19, c30, ti, tj, tz, c46])
        · refine Run.iconst (v := nI 1) d_PM_shows_49 ic_1 ?_
          refine Run.goto d_PM_shows_50 ?_
          refine Run.iret d_PM_shows_54 rfl rfl ?_
          exact ret_i (by simp [showsR, c8, c19, c30, ti, tj, tz, c46])
      · have c30 : inB a 8 = false := c30
        refine Run.bipush (v := -2) d_PM_shows_33 bp_m2 ?_
        refine Run.iret d_PM_shows_35 rfl rfl ?_
        exact ret_i (by simp [showsR, c8, c19, c30])
    · refine Run.iconst (v := -1) d_PM_shows_22 ic_m1 ?_
      refine Run.iret d_PM_shows_23 rfl rfl ?_
      first
      | exact ret_i (by rw [showsR, c8, Bool.false_and, if_neg (by decide)])
      | exact ret_i (by rw [showsR, c19, Bool.and_false, if_neg (by decide)])
theorem c_Rf_shows {x y a : Int32} (hc : coOK c) (hr : RfAt h c) : Call X (d + 4) 0 0 M_Rf_shows [.ref 44, .int x, .int y, .int a] h (Ret (.int (showsR c x y a)) h) := by
  show Run X (d + 4) 0 0 M_Rf_shows 0 [some (.ref 44), some (.int x), some (.int y), some (.int a)] [] h _
  obtain ⟨ts, pl, rl, rh, rp, ac, tu, sd, mm, mf, rm, rf, fh, fp, g0, g1, g2, hu1, hu2⟩ := id hr
  have b1 := hc.1
  have b2 := hc.2.1
  refine Run.aload_n d_Rf_shows_0 rfl ?_
  refine Run.iconst (v := nI 0) d_Rf_shows_1 ic_0 ?_
  refine Run.putf d_Rf_shows_2 fl_Rf_59 (fun _ => rfl) (fun _ => rfl) (by first | rfl | assumption) (by exact Nat.le_of_ble_eq_true rfl) ?_
  refine run_hp (set_same g0) ?_
  refine Run.aload_n d_Rf_shows_5 rfl ?_
  refine Run.iload_n d_Rf_shows_6 rfl ?_
  refine Run.V1r d_Rf_shows_7 lk_Rf_156 cm_Rf_noPiece iv_Rf_noPiece rfl (by first | rfl | assumption) (Nat.le_of_ble_eq_true rfl) (Nat.le_of_ble_eq_true rfl) (c_Rf_noPiece hc hr) ?_
  first | refine Run.if_ne_b d_Rf_shows_10 (fun c10 => ?_) (fun c10 => ?_) | refine Run.if_ne_n d_Rf_shows_10 (by omega) (fun c10 => ?_) (fun c10 => ?_) | refine Run.if_ne d_Rf_shows_10 (fun c10 => ?_) (fun c10 => ?_)
  · rw [Bool.not_eq_true'] at c10
    refine Run.iconst (v := -1) d_Rf_shows_21 ic_m1 ?_
    refine Run.iret d_Rf_shows_22 rfl rfl ?_
    first
    | exact ret_i (by rw [showsR, c10, Bool.false_and, if_neg (by decide)])
    | exact ret_i (by rw [showsR, c18, Bool.and_false, if_neg (by decide)])
  · rw [Bool.not_eq_false'] at c10
    refine Run.aload_n d_Rf_shows_13 rfl ?_
    refine Run.iload_n d_Rf_shows_14 rfl ?_
    refine Run.V1r d_Rf_shows_15 lk_Rf_149 cm_Rf_noHolder iv_Rf_noHolder rfl (by first | rfl | assumption) (Nat.le_of_ble_eq_true rfl) (Nat.le_of_ble_eq_true rfl) (c_Rf_noHolder hc hr) ?_
    first | refine Run.if_eq_b d_Rf_shows_18 (fun c18 => ?_) (fun c18 => ?_) | refine Run.if_eq_n d_Rf_shows_18 (by omega) (fun c18 => ?_) (fun c18 => ?_) | refine Run.if_eq d_Rf_shows_18 (fun c18 => ?_) (fun c18 => ?_)
    · rw [Bool.not_eq_false'] at c18
      obtain ⟨i, hi, rfl⟩ := inB_t (by omega) c10
      obtain ⟨j, hj, rfl⟩ := inB_t (by omega) c18
      have ti : tn (nI i) = i := tn_nI (by omega)
      have tj : tn (nI j) = j := tn_nI (by omega)
      refine Run.iload_n d_Rf_shows_23 rfl ?_
      refine Run.i2l d_Rf_shows_24 ?_
      refine Run.lconst (v := 0) d_Rf_shows_25 rfl ?_
      refine Run.ldc2 d_Rf_shows_26 kn_Rf_159 ?_
      refine Run.S3r d_Rf_shows_29 lk_Rf_66 cm_Rf_in st_Rf_in (Nat.le_of_ble_eq_true rfl) (Nat.le_of_ble_eq_true rfl) (c_Rf_in) ?_
      rw [in_B (n := 8) (by omega) (by decide +kernel)]
      first | refine Run.if_ne_b d_Rf_shows_32 (fun c32 => ?_) (fun c32 => ?_) | refine Run.if_ne_n d_Rf_shows_32 (by omega) (fun c32 => ?_) (fun c32 => ?_) | refine Run.if_ne d_Rf_shows_32 (fun c32 => ?_) (fun c32 => ?_)
      · obtain ⟨z, hz, rfl⟩ := inB_t (n := 8) (by omega) c32
        have tz : tn (nI z) = z := tn_nI (by omega)
        refine Run.aload_n d_Rf_shows_38 rfl ?_
        refine Run.iload_n d_Rf_shows_39 rfl ?_
        refine Run.iload_n d_Rf_shows_40 rfl ?_
        refine Run.iload_n d_Rf_shows_41 rfl ?_
        refine Run.V3r d_Rf_shows_42 lk_Rf_123 cm_Rf_showsTo iv_Rf_showsTo rfl (by first | rfl | assumption) (Nat.le_of_ble_eq_true rfl) (Nat.le_of_ble_eq_true rfl) (c_Rf_showsTo hc hr hi hj hz) ?_
        first | refine Run.if_eq_b d_Rf_shows_45 (fun c45 => ?_) (fun c45 => ?_) | refine Run.if_eq_n d_Rf_shows_45 (by omega) (fun c45 => ?_) (fun c45 => ?_) | refine Run.if_eq d_Rf_shows_45 (fun c45 => ?_) (fun c45 => ?_)
        · refine Run.iconst (v := nI 0) d_Rf_shows_52 ic_0 ?_
          refine Run.iret d_Rf_shows_53 rfl rfl ?_
          exact ret_i (by simp [showsR, c10, c18, c32, ti, tj, tz, c45])
        · refine Run.iconst (v := nI 1) d_Rf_shows_48 ic_1 ?_
          refine Run.goto d_Rf_shows_49 ?_
          refine Run.iret d_Rf_shows_53 rfl rfl ?_
          exact ret_i (by simp [showsR, c10, c18, c32, ti, tj, tz, c45])
      · refine Run.bipush (v := -2) d_Rf_shows_35 bp_m2 ?_
        refine Run.iret d_Rf_shows_37 rfl rfl ?_
        exact ret_i (by simp [showsR, c10, c18, c32])
    · rw [Bool.not_eq_true'] at c18
      refine Run.iconst (v := -1) d_Rf_shows_21 ic_m1 ?_
      refine Run.iret d_Rf_shows_22 rfl rfl ?_
      first
      | exact ret_i (by rw [showsR, c10, Bool.false_and, if_neg (by decide)])
      | exact ret_i (by rw [showsR, c18, Bool.and_false, if_neg (by decide)])
theorem c_PM_tilts {x y : Int32} (hc : coOK c) (hp : pgOK c p) (ht : TlAt h c) (hst : StAt h 15 c p) : Call X (d + 6) 0 0 M_PM_tilts [.ref 1, .int x, .int y] h (Ret (.int (tiltsR c p x y)) h) := by
  show Run X (d + 6) 0 0 M_PM_tilts 0 [some (.ref 1), some (.int x), some (.int y)] [] h _
  obtain ⟨kt, kd, sd, h0, hco⟩ := id ht
  obtain ⟨fhk, fpt, fan, fkd, fhd, li, g0, -⟩ := id hco
  have b1 := hc.1
  have b2 := hc.2.1
  refine Run.aload_n d_PM_tilts_0 rfl ?_
  refine Run.getf d_PM_tilts_1 fl_PM_19 (by first | rfl | assumption) (by rfl) ?_
  refine Run.iload_n d_PM_tilts_4 rfl ?_
  refine Run.V1r d_PM_tilts_5 lk_PM_133 cm_Co_hasPiece iv_Co_hasPiece rfl (by first | rfl | assumption) (Nat.le_of_ble_eq_true rfl) (Nat.le_of_ble_eq_true rfl) (c_Co_hasPiece hco) ?_
  first | refine Run.if_eq_b d_PM_tilts_8 (fun c8 => ?_) (fun c8 => ?_) | refine Run.if_eq_n d_PM_tilts_8 (by omega) (fun c8 => ?_) (fun c8 => ?_) | refine Run.if_eq d_PM_tilts_8 (fun c8 => ?_) (fun c8 => ?_)
  · refine Run.iconst (v := -1) d_PM_tilts_22 ic_m1 ?_
    refine Run.iret d_PM_tilts_23 rfl rfl ?_
    first
    | exact ret_i (by rw [tiltsR, c8, Bool.false_and, if_neg (by decide)])
    | exact ret_i (by rw [tiltsR, c19, Bool.and_false, if_neg (by decide)])
  · refine Run.aload_n d_PM_tilts_11 rfl ?_
    refine Run.getf d_PM_tilts_12 fl_PM_19 (by first | rfl | assumption) (by rfl) ?_
    refine Run.iload_n d_PM_tilts_15 rfl ?_
    refine Run.V1r d_PM_tilts_16 lk_PM_119 cm_Co_hasHolder iv_Co_hasHolder rfl (by first | rfl | assumption) (Nat.le_of_ble_eq_true rfl) (Nat.le_of_ble_eq_true rfl) (c_Co_hasHolder hco) ?_
    first | refine Run.if_ne_b d_PM_tilts_19 (fun c19 => ?_) (fun c19 => ?_) | refine Run.if_ne_n d_PM_tilts_19 (by omega) (fun c19 => ?_) (fun c19 => ?_) | refine Run.if_ne d_PM_tilts_19 (fun c19 => ?_) (fun c19 => ?_)
    · obtain ⟨i, hi, rfl⟩ := inB_t (by omega) c8
      obtain ⟨j, hj, rfl⟩ := inB_t (by omega) c19
      have ti : tn (nI i) = i := tn_nI (by omega)
      have tj : tn (nI j) = j := tn_nI (by omega)
      refine Run.aload_n d_PM_tilts_24 rfl ?_
      refine Run.iload_n d_PM_tilts_25 rfl ?_
      refine Run.iload_n d_PM_tilts_26 rfl ?_
      refine Run.V2r d_PM_tilts_27 lk_PM_183 cm_PM_fewestTilts iv_PM_fewestTilts rfl (by first | rfl | assumption) (Nat.le_of_ble_eq_true rfl) (Nat.le_of_ble_eq_true rfl) (c_PM_fewestTilts hc hp ht hst hi hj) ?_
      refine Run.iret d_PM_tilts_30 rfl rfl ?_
      exact ret_i (by simp [tiltsR, c8, c19, ti, tj])
    · refine Run.iconst (v := -1) d_PM_tilts_22 ic_m1 ?_
      refine Run.iret d_PM_tilts_23 rfl rfl ?_
      first
      | exact ret_i (by rw [tiltsR, c8, Bool.false_and, if_neg (by decide)])
      | exact ret_i (by rw [tiltsR, c19, Bool.and_false, if_neg (by decide)])
theorem c_Rf_tilts {x y : Int32} (hc : coOK c) (hp : pgOK c p) (hr : RfAt h c) (hg : PgAt h 49 c p) : Call X (d + 4) 0 0 M_Rf_tilts [.ref 44, .int x, .int y] h (Ret (.int (tiltsR c p x y)) h) := by
  show Run X (d + 4) 0 0 M_Rf_tilts 0 [some (.ref 44), some (.int x), some (.int y)] [] h _
  obtain ⟨ts, pl, rl, rh, rp, ac, tu, sd, mm, mf, rm, rf, fh, fp, g0, g1, g2, hu1, hu2⟩ := id hr
  have b1 := hc.1
  have b2 := hc.2.1
  refine Run.aload_n d_Rf_tilts_0 rfl ?_
  refine Run.iconst (v := nI 0) d_Rf_tilts_1 ic_0 ?_
  refine Run.putf d_Rf_tilts_2 fl_Rf_59 (fun _ => rfl) (fun _ => rfl) (by first | rfl | assumption) (by exact Nat.le_of_ble_eq_true rfl) ?_
  refine run_hp (set_same g0) ?_
  refine Run.aload_n d_Rf_tilts_5 rfl ?_
  refine Run.iload_n d_Rf_tilts_6 rfl ?_
  refine Run.V1r d_Rf_tilts_7 lk_Rf_156 cm_Rf_noPiece iv_Rf_noPiece rfl (by first | rfl | assumption) (Nat.le_of_ble_eq_true rfl) (Nat.le_of_ble_eq_true rfl) (c_Rf_noPiece hc hr) ?_
  first | refine Run.if_ne_b d_Rf_tilts_10 (fun c10 => ?_) (fun c10 => ?_) | refine Run.if_ne_n d_Rf_tilts_10 (by omega) (fun c10 => ?_) (fun c10 => ?_) | refine Run.if_ne d_Rf_tilts_10 (fun c10 => ?_) (fun c10 => ?_)
  · rw [Bool.not_eq_true'] at c10
    refine Run.iconst (v := -1) d_Rf_tilts_21 ic_m1 ?_
    refine Run.goto d_Rf_tilts_22 ?_
    refine Run.iret d_Rf_tilts_31 rfl rfl ?_
    first
    | exact ret_i (by rw [tiltsR, c10, Bool.false_and, if_neg (by decide)])
    | exact ret_i (by rw [tiltsR, c18, Bool.and_false, if_neg (by decide)])
    | exact ret_i (by simp [tiltsR, c10, c18, ti, tj])
  · rw [Bool.not_eq_false'] at c10
    refine Run.aload_n d_Rf_tilts_13 rfl ?_
    refine Run.iload_n d_Rf_tilts_14 rfl ?_
    refine Run.V1r d_Rf_tilts_15 lk_Rf_149 cm_Rf_noHolder iv_Rf_noHolder rfl (by first | rfl | assumption) (Nat.le_of_ble_eq_true rfl) (Nat.le_of_ble_eq_true rfl) (c_Rf_noHolder hc hr) ?_
    first | refine Run.if_eq_b d_Rf_tilts_18 (fun c18 => ?_) (fun c18 => ?_) | refine Run.if_eq_n d_Rf_tilts_18 (by omega) (fun c18 => ?_) (fun c18 => ?_) | refine Run.if_eq d_Rf_tilts_18 (fun c18 => ?_) (fun c18 => ?_)
    · rw [Bool.not_eq_false'] at c18
      obtain ⟨i, hi, rfl⟩ := inB_t (by omega) c10
      obtain ⟨j, hj, rfl⟩ := inB_t (by omega) c18
      have ti : tn (nI i) = i := tn_nI (by omega)
      have tj : tn (nI j) = j := tn_nI (by omega)
      refine Run.aload_n d_Rf_tilts_25 rfl ?_
      refine Run.iload_n d_Rf_tilts_26 rfl ?_
      refine Run.iload_n d_Rf_tilts_27 rfl ?_
      refine Run.V2r d_Rf_tilts_28 lk_Rf_172 cm_Rf_tiltsOf iv_Rf_tiltsOf rfl (by first | rfl | assumption) (Nat.le_of_ble_eq_true rfl) (Nat.le_of_ble_eq_true rfl) (c_Rf_tiltsOf hc hp hr hg hi hj) ?_
      refine Run.iret d_Rf_tilts_31 rfl rfl ?_
      first
      | exact ret_i (by rw [tiltsR, c10, Bool.false_and, if_neg (by decide)])
      | exact ret_i (by rw [tiltsR, c18, Bool.and_false, if_neg (by decide)])
      | exact ret_i (by simp [tiltsR, c10, c18, ti, tj])
    · rw [Bool.not_eq_true'] at c18
      refine Run.iconst (v := -1) d_Rf_tilts_21 ic_m1 ?_
      refine Run.goto d_Rf_tilts_22 ?_
      refine Run.iret d_Rf_tilts_31 rfl rfl ?_
      first
      | exact ret_i (by rw [tiltsR, c10, Bool.false_and, if_neg (by decide)])
      | exact ret_i (by rw [tiltsR, c18, Bool.and_false, if_neg (by decide)])
      | exact ret_i (by simp [tiltsR, c10, c18, ti, tj])
theorem c_PM_finds {y t : Int32} (hc : coOK c) (hp : pgOK c p) (ht : TlAt h c) (hst : StAt h 15 c p) : Call X (d + 7) 0 0 M_PM_finds [.ref 1, .int y, .int t] h (Ret (.int (findsR c p y t)) h) := by
  show Run X (d + 7) 0 0 M_PM_finds 0 [some (.ref 1), some (.int y), some (.int t)] [] h _
  obtain ⟨kt, kd, sd, h0, hco⟩ := id ht
  obtain ⟨fhk, fpt, fan, fkd, fhd, li, g0, -⟩ := id hco
  have b1 := hc.1
  refine Run.aload_n d_PM_finds_0 rfl ?_
  refine Run.getf d_PM_finds_1 fl_PM_19 (by first | rfl | assumption) (by rfl) ?_
  refine Run.iload_n d_PM_finds_4 rfl ?_
  refine Run.V1r d_PM_finds_5 lk_PM_119 cm_Co_hasHolder iv_Co_hasHolder rfl (by first | rfl | assumption) (Nat.le_of_ble_eq_true rfl) (Nat.le_of_ble_eq_true rfl) (c_Co_hasHolder hco) ?_
  first | refine Run.if_ne_b d_PM_finds_8 (fun c8 => ?_) (fun c8 => ?_) | refine Run.if_ne_n d_PM_finds_8 (by omega) (fun c8 => ?_) (fun c8 => ?_) | refine Run.if_ne d_PM_finds_8 (fun c8 => ?_) (fun c8 => ?_)
  · obtain ⟨j, hj, rfl⟩ := inB_t (by omega) c8
    have tj : tn (nI j) = j := tn_nI (by omega)
    refine Run.iload_n d_PM_finds_13 rfl ?_
    refine Run.iconst (v := nI 5) d_PM_finds_14 ic_5 ?_
    refine Run.S2r d_PM_finds_15 lk_PM_158 cm_PM_isBelow st_PM_isBelow (Nat.le_of_ble_eq_true rfl) (Nat.le_of_ble_eq_true rfl) (c_PM_isBelow) ?_
    first | refine Run.if_eq_b d_PM_finds_18 (fun c18 => ?_) (fun c18 => ?_) | refine Run.if_eq_n d_PM_finds_18 (by omega) (fun c18 => ?_) (fun c18 => ?_) | refine Run.if_eq d_PM_finds_18 (fun c18 => ?_) (fun c18 => ?_)
    · have c18 : inB t 5 = false := c18
      refine Run.bipush (v := -2) d_PM_finds_30 bp_m2 ?_
      refine Run.iret d_PM_finds_32 rfl rfl ?_
      first
      | (refine ret_i ?_; simp [findsR, c8, c18]; done)
      | (refine ret_i ?_; simp [findsR, c8, c18, tj, tz]; done)
    · have c18 : inB t 5 = true := c18
      obtain ⟨z, hz, rfl⟩ := inB_t (n := 5) (by omega) c18
      have tz : tn (nI z) = z := tn_nI (by omega)
      refine Run.aload_n d_PM_finds_21 rfl ?_
      refine Run.iload_n d_PM_finds_22 rfl ?_
      refine Run.iload_n d_PM_finds_23 rfl ?_
      refine Run.V2r d_PM_finds_24 lk_PM_187 cm_PM_fewestTiltsToSee iv_PM_fewestTiltsToSee rfl (by first | rfl | assumption) (Nat.le_of_ble_eq_true rfl) (Nat.le_of_ble_eq_true rfl) (c_PM_fewestTiltsToSee hc hp ht hst hj (by omega)) ?_
      refine Run.goto d_PM_finds_27 ?_
      refine Run.iret d_PM_finds_32 rfl rfl ?_
      first
      | (refine ret_i ?_; simp [findsR, c8, c18]; done)
      | (refine ret_i ?_; simp [findsR, c8, c18, tj, tz]; done)
  · refine Run.iconst (v := -1) d_PM_finds_11 ic_m1 ?_
    refine Run.iret d_PM_finds_12 rfl rfl ?_
    exact ret_i (by simp [findsR, c8])
theorem c_Rf_finds {y t : Int32} (hc : coOK c) (hp : pgOK c p) (hr : RfAt h c) (hg : PgAt h 49 c p) : Call X (d + 5) 0 0 M_Rf_finds [.ref 44, .int y, .int t] h (Ret (.int (findsR c p y t)) h) := by
  show Run X (d + 5) 0 0 M_Rf_finds 0 [some (.ref 44), some (.int y), some (.int t)] [] h _
  obtain ⟨ts, pl, rl, rh, rp, ac, tu, sd, mm, mf, rm, rf, fh, fp, g0, g1, g2, hu1, hu2⟩ := id hr
  have b1 := hc.1
  refine Run.aload_n d_Rf_finds_0 rfl ?_
  refine Run.iconst (v := nI 0) d_Rf_finds_1 ic_0 ?_
  refine Run.putf d_Rf_finds_2 fl_Rf_59 (fun _ => rfl) (fun _ => rfl) (by first | rfl | assumption) (by exact Nat.le_of_ble_eq_true rfl) ?_
  refine run_hp (set_same g0) ?_
  refine Run.aload_n d_Rf_finds_5 rfl ?_
  refine Run.iload_n d_Rf_finds_6 rfl ?_
  refine Run.V1r d_Rf_finds_7 lk_Rf_149 cm_Rf_noHolder iv_Rf_noHolder rfl (by first | rfl | assumption) (Nat.le_of_ble_eq_true rfl) (Nat.le_of_ble_eq_true rfl) (c_Rf_noHolder hc hr) ?_
  first | refine Run.if_eq_b d_Rf_finds_10 (fun c10 => ?_) (fun c10 => ?_) | refine Run.if_eq_n d_Rf_finds_10 (by omega) (fun c10 => ?_) (fun c10 => ?_) | refine Run.if_eq d_Rf_finds_10 (fun c10 => ?_) (fun c10 => ?_)
  · rw [Bool.not_eq_false'] at c10
    obtain ⟨j, hj, rfl⟩ := inB_t (by omega) c10
    have tj : tn (nI j) = j := tn_nI (by omega)
    refine Run.iload_n d_Rf_finds_15 rfl ?_
    refine Run.i2l d_Rf_finds_16 ?_
    refine Run.lconst (v := 0) d_Rf_finds_17 rfl ?_
    refine Run.ldc2 d_Rf_finds_18 kn_Rf_175 ?_
    refine Run.S3r d_Rf_finds_21 lk_Rf_66 cm_Rf_in st_Rf_in (Nat.le_of_ble_eq_true rfl) (Nat.le_of_ble_eq_true rfl) (c_Rf_in) ?_
    rw [in_B (n := 5) (by omega) (by decide +kernel)]
    first | refine Run.if_eq_b d_Rf_finds_24 (fun c24 => ?_) (fun c24 => ?_) | refine Run.if_eq_n d_Rf_finds_24 (by omega) (fun c24 => ?_) (fun c24 => ?_) | refine Run.if_eq d_Rf_finds_24 (fun c24 => ?_) (fun c24 => ?_)
    · refine Run.bipush (v := -2) d_Rf_finds_36 bp_m2 ?_
      refine Run.iret d_Rf_finds_38 rfl rfl ?_
      first
      | (refine ret_i ?_; simp [findsR, c10, c24]; done)
      | (refine ret_i ?_; simp [findsR, c10, c24, tj, tz]; done)
    · obtain ⟨z, hz, rfl⟩ := inB_t (n := 5) (by omega) c24
      have tz : tn (nI z) = z := tn_nI (by omega)
      refine Run.aload_n d_Rf_finds_27 rfl ?_
      refine Run.iload_n d_Rf_finds_28 rfl ?_
      refine Run.iload_n d_Rf_finds_29 rfl ?_
      refine Run.V2r d_Rf_finds_30 lk_Rf_177 cm_Rf_findsOf iv_Rf_findsOf rfl (by first | rfl | assumption) (Nat.le_of_ble_eq_true rfl) (Nat.le_of_ble_eq_true rfl) (c_Rf_findsOf hc hp hr hg hj (by omega)) ?_
      refine Run.goto d_Rf_finds_33 ?_
      refine Run.iret d_Rf_finds_38 rfl rfl ?_
      first
      | (refine ret_i ?_; simp [findsR, c10, c24]; done)
      | (refine ret_i ?_; simp [findsR, c10, c24, tj, tz]; done)
  · rw [Bool.not_eq_true'] at c10
    refine Run.iconst (v := -1) d_Rf_finds_13 ic_m1 ?_
    refine Run.iret d_Rf_finds_14 rfl rfl ?_
    exact ret_i (by simp [findsR, c10])
theorem c_PM_when {y t : Int32} (hc : coOK c) (hp : pgOK c p) (ht : TlAt h c) (hst : StAt h 15 c p) : Call X (d + 7) 0 0 M_PM_when [.ref 1, .int y, .int t] h (Ret (.int (whenR c p y t)) h) := by
  show Run X (d + 7) 0 0 M_PM_when 0 [some (.ref 1), some (.int y), some (.int t)] [] h _
  obtain ⟨kt, kd, sd, h0, hco⟩ := id ht
  obtain ⟨fhk, fpt, fan, fkd, fhd, li, g0, -⟩ := id hco
  have b1 := hc.1
  refine Run.aload_n d_PM_when_0 rfl ?_
  refine Run.getf d_PM_when_1 fl_PM_19 (by first | rfl | assumption) (by rfl) ?_
  refine Run.iload_n d_PM_when_4 rfl ?_
  refine Run.V1r d_PM_when_5 lk_PM_119 cm_Co_hasHolder iv_Co_hasHolder rfl (by first | rfl | assumption) (Nat.le_of_ble_eq_true rfl) (Nat.le_of_ble_eq_true rfl) (c_Co_hasHolder hco) ?_
  first | refine Run.if_ne_b d_PM_when_8 (fun c8 => ?_) (fun c8 => ?_) | refine Run.if_ne_n d_PM_when_8 (by omega) (fun c8 => ?_) (fun c8 => ?_) | refine Run.if_ne d_PM_when_8 (fun c8 => ?_) (fun c8 => ?_)
  · obtain ⟨j, hj, rfl⟩ := inB_t (by omega) c8
    have tj : tn (nI j) = j := tn_nI (by omega)
    refine Run.iload_n d_PM_when_13 rfl ?_
    refine Run.iconst (v := nI 5) d_PM_when_14 ic_5 ?_
    refine Run.S2r d_PM_when_15 lk_PM_158 cm_PM_isBelow st_PM_isBelow (Nat.le_of_ble_eq_true rfl) (Nat.le_of_ble_eq_true rfl) (c_PM_isBelow) ?_
    first | refine Run.if_eq_b d_PM_when_18 (fun c18 => ?_) (fun c18 => ?_) | refine Run.if_eq_n d_PM_when_18 (by omega) (fun c18 => ?_) (fun c18 => ?_) | refine Run.if_eq d_PM_when_18 (fun c18 => ?_) (fun c18 => ?_)
    · have c18 : inB t 5 = false := c18
      refine Run.bipush (v := -2) d_PM_when_30 bp_m2 ?_
      refine Run.iret d_PM_when_32 rfl rfl ?_
      first
      | (refine ret_i ?_; simp [whenR, c8, c18]; done)
      | (refine ret_i ?_; simp [whenR, c8, c18, tj, tz]; done)
    · have c18 : inB t 5 = true := c18
      obtain ⟨z, hz, rfl⟩ := inB_t (n := 5) (by omega) c18
      have tz : tn (nI z) = z := tn_nI (by omega)
      refine Run.aload_n d_PM_when_21 rfl ?_
      refine Run.iload_n d_PM_when_22 rfl ?_
      refine Run.iload_n d_PM_when_23 rfl ?_
      refine Run.V2r d_PM_when_24 lk_PM_196 cm_PM_hoursUntilSeen iv_PM_hoursUntilSeen rfl (by first | rfl | assumption) (Nat.le_of_ble_eq_true rfl) (Nat.le_of_ble_eq_true rfl) (c_PM_hoursUntilSeen hc hp ht hst hj hz) ?_
      refine Run.goto d_PM_when_27 ?_
      refine Run.iret d_PM_when_32 rfl rfl ?_
      first
      | (refine ret_i ?_; simp [whenR, c8, c18]; done)
      | (refine ret_i ?_; simp [whenR, c8, c18, tj, tz]; done)
  · refine Run.iconst (v := -1) d_PM_when_11 ic_m1 ?_
    refine Run.iret d_PM_when_12 rfl rfl ?_
    exact ret_i (by simp [whenR, c8])
theorem c_PM_all {y : Int32} (hc : coOK c) (hp : pgOK c p) (ht : TlAt h c) (hst : StAt h 15 c p) : Call X (d + 7) 0 0 M_PM_all [.ref 1, .int y] h (Ret (.int (allR c p y)) h) := by
  show Run X (d + 7) 0 0 M_PM_all 0 [some (.ref 1), some (.int y), none, none, none, none] [] h _
  obtain ⟨kt, kd, sd, h0, hco⟩ := id ht
  obtain ⟨fhk, fpt, fan, fkd, fhd, li, g0, -⟩ := id hco
  have b1 := hc.1
  have key : ∀ j, j < nhC c → Run X (d + 7) 0 0 M_PM_all 24 [some (.ref 1), some (.int (nI j)), some (.int (nI (hptN c p j))), some (.int (nI 0)), some (.int (nI 0)), none] [] h (Ret (.int (oI (allN c p j))) h) := by
    intro j hj
    have w1 := hptN_lt hc p j
    refine upto 5 (fun i => ∀ (a : Nat) (v5 : Option Value), itN (allF c p j) (some 0) i = some a → Run X (d + 7) 0 0 M_PM_all 24 [some (.ref 1), some (.int (nI j)), some (.int (nI (hptN c p j))), some (.int (nI a)), some (.int (nI i)), v5] [] h (Ret (.int (oI (allN c p j))) h)) ?_ 0 (Nat.zero_le _) 0 none rfl
    intro i hi ih a v5 ha
    have w2 := all_le i a ha
    have h46 : i < 5 → (hptN c p j).testBit i = true → Run X (d + 7) 0 0 M_PM_all 46 [some (.ref 1), some (.int (nI j)), some (.int (nI (hptN c p j))), some (.int (nI a)), some (.int (nI i)), v5] [.int (oI (findN c p j i))] h (Ret (.int (oI (allN c p j))) h) := by
      intro c27 c36
      cases hb : findN c p j i with
      | none =>
        refine Run.istore d_PM_all_46 rfl rfl ?_
        show Run _ _ _ _ _ _ [_, _, _, _, _, _] _ _ _
        refine Run.iload d_PM_all_48 rfl ?_
        refine Run.bipush (v := -9) d_PM_all_50 bp_m9 ?_
        first | refine Run.icmp_ne_n d_PM_all_52 (by omega) (by omega) (fun c52 => ?_) (fun c52 => ?_) | refine Run.icmp_ne d_PM_all_52 (fun c52 => ?_) (fun c52 => ?_)
        · exact absurd rfl c52
        · refine Run.bipush (v := -9) d_PM_all_55 bp_m9 ?_
          refine Run.iret d_PM_all_57 rfl rfl ?_
          exact ret_i (by rw [allN, all_none (i := i + 1) (by show allF c p j i _ = none; rw [ha]; simp [allF, c36, hb]) 5 (by omega)]; rfl)
      | some b =>
        have hb5 := findN_lt (npC c) b hb
        show Run _ _ _ _ _ _ _ [.int (nI b)] _ _
        refine Run.istore d_PM_all_46 rfl rfl ?_
        show Run _ _ _ _ _ _ [_, _, _, _, _, _] _ _ _
        refine Run.iload d_PM_all_48 rfl ?_
        refine Run.bipush (v := -9) d_PM_all_50 bp_m9 ?_
        first | refine Run.icmp_ne_n d_PM_all_52 (by omega) (by omega) (fun c52 => ?_) (fun c52 => ?_) | refine Run.icmp_ne d_PM_all_52 (fun c52 => ?_) (fun c52 => ?_)
        · refine Run.iload_n d_PM_all_58 rfl ?_
          refine Run.iload d_PM_all_59 rfl ?_
          first | refine Run.iadd_n d_PM_all_61 ?_ | refine Run.iadd d_PM_all_61 ?_
          refine Run.istore_n d_PM_all_62 rfl rfl ?_
          show Run _ _ _ _ _ _ [_, _, _, _, _, _] _ _ _
          first | refine Run.iinc_n d_PM_all_63 ic_1 rfl rfl ?_ | refine Run.iinc d_PM_all_63 rfl rfl rfl ?_
          show Run _ _ _ _ _ _ [_, _, _, _, _, _] _ _ _
          refine Run.goto d_PM_all_66 ?_
          exact ih c27 _ _ (by show allF c p j i _ = _; rw [ha]; simp [allF, c36, hb])
        · exact absurd c52 (nI_n9 (by omega))
    refine Run.iload d_PM_all_24 rfl ?_
    refine Run.iconst (v := nI 5) d_PM_all_26 ic_5 ?_
    first | refine Run.icmp_ge_n d_PM_all_27 (by omega) (by omega) (fun c27 => ?_) (fun c27 => ?_) | refine Run.icmp_ge d_PM_all_27 (fun c27 => ?_) (fun c27 => ?_)
    · refine Run.iload_n d_PM_all_69 rfl ?_
      refine Run.iret d_PM_all_70 rfl rfl ?_
      exact ret_i (by rw [allN, show 5 = i by omega, ha]; rfl)
    · refine Run.iload_n d_PM_all_30 rfl ?_
      refine Run.iload d_PM_all_31 rfl ?_
      refine Run.S2r d_PM_all_33 lk_PM_193 cm_PM_hasBit st_PM_hasBit (Nat.le_of_ble_eq_true rfl) (Nat.le_of_ble_eq_true rfl) (c_PM_hasBit (by omega) (by omega)) ?_
      first | refine Run.if_eq_b d_PM_all_36 (fun c36 => ?_) (fun c36 => ?_) | refine Run.if_eq_n d_PM_all_36 (by omega) (fun c36 => ?_) (fun c36 => ?_) | refine Run.if_eq d_PM_all_36 (fun c36 => ?_) (fun c36 => ?_)
      · first | refine Run.iinc_n d_PM_all_63 ic_1 rfl rfl ?_ | refine Run.iinc d_PM_all_63 rfl rfl rfl ?_
        show Run _ _ _ _ _ _ [_, _, _, _, _, _] _ _ _
        refine Run.goto d_PM_all_66 ?_
        exact ih c27 _ _ (by show allF c p j i _ = _; rw [ha]; simp [allF, c36])
      · refine Run.aload_n d_PM_all_39 rfl ?_
        refine Run.iload_n d_PM_all_40 rfl ?_
        refine Run.iload d_PM_all_41 rfl ?_
        refine Run.V2r d_PM_all_43 lk_PM_187 cm_PM_fewestTiltsToSee iv_PM_fewestTiltsToSee rfl (by first | rfl | assumption) (Nat.le_of_ble_eq_true rfl) (Nat.le_of_ble_eq_true rfl) (c_PM_fewestTiltsToSee hc hp ht hst hj (by omega)) ?_
        exact h46 c27 c36
  refine Run.aload_n d_PM_all_0 rfl ?_
  refine Run.getf d_PM_all_1 fl_PM_19 (by first | rfl | assumption) (by rfl) ?_
  refine Run.iload_n d_PM_all_4 rfl ?_
  refine Run.V1r d_PM_all_5 lk_PM_119 cm_Co_hasHolder iv_Co_hasHolder rfl (by first | rfl | assumption) (Nat.le_of_ble_eq_true rfl) (Nat.le_of_ble_eq_true rfl) (c_Co_hasHolder hco) ?_
  first | refine Run.if_ne_b d_PM_all_8 (fun c8 => ?_) (fun c8 => ?_) | refine Run.if_ne_n d_PM_all_8 (by omega) (fun c8 => ?_) (fun c8 => ?_) | refine Run.if_ne d_PM_all_8 (fun c8 => ?_) (fun c8 => ?_)
  · obtain ⟨j, hj, rfl⟩ := inB_t (by omega) c8
    have tj : tn (nI j) = j := tn_nI (by omega)
    refine Run.aload_n d_PM_all_13 rfl ?_
    refine Run.iload_n d_PM_all_14 rfl ?_
    refine Run.V1r d_PM_all_15 lk_PM_190 cm_PM_partsHeld iv_PM_partsHeld rfl (by first | rfl | assumption) (Nat.le_of_ble_eq_true rfl) (Nat.le_of_ble_eq_true rfl) (c_PM_partsHeld hc hp ht hst (by omega)) ?_
    refine Run.istore_n d_PM_all_18 rfl rfl ?_
    show Run _ _ _ _ _ _ [_, _, _, _, _, _] _ _ _
    refine Run.iconst (v := nI 0) d_PM_all_19 ic_0 ?_
    refine Run.istore_n d_PM_all_20 rfl rfl ?_
    show Run _ _ _ _ _ _ [_, _, _, _, _, _] _ _ _
    refine Run.iconst (v := nI 0) d_PM_all_21 ic_0 ?_
    refine Run.istore d_PM_all_22 rfl rfl ?_
    show Run _ _ _ _ _ _ [_, _, _, _, _, _] _ _ _
    rw [show allR c p (nI j) = oI (allN c p j) by simp [allR, c8, tj]]
    exact key j hj
  · refine Run.iconst (v := -1) d_PM_all_11 ic_m1 ?_
    refine Run.iret d_PM_all_12 rfl rfl ?_
    exact ret_i (by simp [allR, c8])
theorem c_Rf_all {y : Int32} (hc : coOK c) (hp : pgOK c p) (hr : RfAt h c) (hg : PgAt h 49 c p) : Call X (d + 5) 0 0 M_Rf_all [.ref 44, .int y] h (Ret (.int (allR c p y)) h) := by
  show Run X (d + 5) 0 0 M_Rf_all 0 [some (.ref 44), some (.int y), none, none, none, none] [] h _
  obtain ⟨ts, pl, rl, rh, rp, ac, tu, sd, mm, mf, rm, rf, fh, fp, g0, g1, g2, hu1, hu2⟩ := id hr
  have b1 := hc.1
  have key : ∀ j, j < nhC c → Run X (d + 5) 0 0 M_Rf_all 22 [some (.ref 44), some (.int (nI j)), some (.int (nI 0)), some (.int (nI 1)), some (.int (nI 0)), none] [] h (Ret (.int (oI (allN c p j))) h) := by
    intro j hj
    have w1 := hptN_lt hc p j
    refine upto 5 (fun i => ∀ (z : Int32) (q : Nat) (v5 : Option Value), ((∃ a, itN (allF c p j) (some 0) i = some a ∧ z = nI a ∧ q = 1) ∨ (itN (allF c p j) (some 0) i = none ∧ q = 0)) → Run X (d + 5) 0 0 M_Rf_all 22 [some (.ref 44), some (.int (nI j)), some (.int z), some (.int (nI q)), some (.int (nI i)), v5] [] h (Ret (.int (oI (allN c p j))) h)) ?_ 0 (Nat.zero_le _) _ _ none (Or.inl ⟨0, rfl, rfl, rfl⟩)
    intro i hi ih z q v5 ha
    have hq : q < 2 := by rcases ha with ⟨_, _, _, q1⟩ | ⟨_, q1⟩ <;> omega
    have h48 : i < 5 → (hptN c p j).testBit i = true → Run X (d + 5) 0 0 M_Rf_all 48 [some (.ref 44), some (.int (nI j)), some (.int z), some (.int (nI q)), some (.int (nI i)), v5] [.int (oI (findN c p j i))] h (Ret (.int (oI (allN c p j))) h) := by
      intro c27 c36
      cases hb : findN c p j i with
      | none =>
        have e1 : itN (allF c p j) (some 0) (i + 1) = none := by
          show allF c p j i _ = none
          simp only [allF, c36, hb, if_true]
          cases itN (allF c p j) (some 0) i <;> rfl
        refine Run.istore d_Rf_all_48 rfl rfl ?_
        show Run _ _ _ _ _ _ [_, _, _, _, _, _] _ _ _
        refine Run.iload_n d_Rf_all_50 rfl ?_
        first | refine Run.if_eq_b d_Rf_all_51 (fun c51 => ?_) (fun c51 => ?_) | refine Run.if_eq_n d_Rf_all_51 (by omega) (fun c51 => ?_) (fun c51 => ?_) | refine Run.if_eq d_Rf_all_51 (fun c51 => ?_) (fun c51 => ?_)
        · refine Run.iconst (v := nI 0) d_Rf_all_65 ic_0 ?_
          refine Run.istore_n d_Rf_all_66 rfl rfl ?_
          show Run _ _ _ _ _ _ [_, _, _, _, _, _] _ _ _
          refine Run.iload_n d_Rf_all_67 rfl ?_
          refine Run.iload d_Rf_all_68 rfl ?_
          first | refine Run.iadd_n d_Rf_all_70 ?_ | refine Run.iadd d_Rf_all_70 ?_
          refine Run.istore_n d_Rf_all_71 rfl rfl ?_
          show Run _ _ _ _ _ _ [_, _, _, _, _, _] _ _ _
          first | refine Run.iinc_n d_Rf_all_72 ic_1 rfl rfl ?_ | refine Run.iinc d_Rf_all_72 rfl rfl rfl ?_
          show Run _ _ _ _ _ _ [_, _, _, _, _, _] _ _ _
          refine Run.goto d_Rf_all_75 ?_
          exact ih c27 _ _ _ (Or.inr ⟨e1, rfl⟩)
        · refine Run.iload d_Rf_all_54 rfl ?_
          refine Run.bipush (v := -9) d_Rf_all_56 bp_m9 ?_
          first | refine Run.icmp_eq_n d_Rf_all_58 (by omega) (by omega) (fun c58 => ?_) (fun c58 => ?_) | refine Run.icmp_eq d_Rf_all_58 (fun c58 => ?_) (fun c58 => ?_)
          · refine Run.iconst (v := nI 0) d_Rf_all_65 ic_0 ?_
            refine Run.istore_n d_Rf_all_66 rfl rfl ?_
            show Run _ _ _ _ _ _ [_, _, _, _, _, _] _ _ _
            refine Run.iload_n d_Rf_all_67 rfl ?_
            refine Run.iload d_Rf_all_68 rfl ?_
            first | refine Run.iadd_n d_Rf_all_70 ?_ | refine Run.iadd d_Rf_all_70 ?_
            refine Run.istore_n d_Rf_all_71 rfl rfl ?_
            show Run _ _ _ _ _ _ [_, _, _, _, _, _] _ _ _
            first | refine Run.iinc_n d_Rf_all_72 ic_1 rfl rfl ?_ | refine Run.iinc d_Rf_all_72 rfl rfl rfl ?_
            show Run _ _ _ _ _ _ [_, _, _, _, _, _] _ _ _
            refine Run.goto d_Rf_all_75 ?_
            exact ih c27 _ _ _ (Or.inr ⟨e1, rfl⟩)
          · exact absurd rfl c58
      | some b =>
        have hb5 := findN_lt (npC c) b hb
        show Run _ _ _ _ _ _ _ [.int (nI b)] _ _
        rcases ha with ⟨a, ha, rfl, rfl⟩ | ⟨ha, rfl⟩
        ·
          refine Run.istore d_Rf_all_48 rfl rfl ?_
          show Run _ _ _ _ _ _ [_, _, _, _, _, _] _ _ _
          refine Run.iload_n d_Rf_all_50 rfl ?_
          first | refine Run.if_eq_b d_Rf_all_51 (fun c51 => ?_) (fun c51 => ?_) | refine Run.if_eq_n d_Rf_all_51 (by omega) (fun c51 => ?_) (fun c51 => ?_) | refine Run.if_eq d_Rf_all_51 (fun c51 => ?_) (fun c51 => ?_)
          · omega
          · refine Run.iload d_Rf_all_54 rfl ?_
            refine Run.bipush (v := -9) d_Rf_all_56 bp_m9 ?_
            first | refine Run.icmp_eq_n d_Rf_all_58 (by omega) (by omega) (fun c58 => ?_) (fun c58 => ?_) | refine Run.icmp_eq d_Rf_all_58 (fun c58 => ?_) (fun c58 => ?_)
            · exact absurd c58 (nI_n9 (by omega))
            · refine Run.iconst (v := nI 1) d_Rf_all_61 ic_1 ?_
              refine Run.goto d_Rf_all_62 ?_
              refine Run.istore_n d_Rf_all_66 rfl rfl ?_
              show Run _ _ _ _ _ _ [_, _, _, _, _, _] _ _ _
              refine Run.iload_n d_Rf_all_67 rfl ?_
              refine Run.iload d_Rf_all_68 rfl ?_
              first | refine Run.iadd_n d_Rf_all_70 ?_ | refine Run.iadd d_Rf_all_70 ?_
              refine Run.istore_n d_Rf_all_71 rfl rfl ?_
              show Run _ _ _ _ _ _ [_, _, _, _, _, _] _ _ _
              first | refine Run.iinc_n d_Rf_all_72 ic_1 rfl rfl ?_ | refine Run.iinc d_Rf_all_72 rfl rfl rfl ?_
              show Run _ _ _ _ _ _ [_, _, _, _, _, _] _ _ _
              refine Run.goto d_Rf_all_75 ?_
              exact ih c27 _ _ _ (Or.inl ⟨a + b, by show allF c p j i _ = _; rw [ha]; simp [allF, c36, hb], rfl, rfl⟩)
        ·
          refine Run.istore d_Rf_all_48 rfl rfl ?_
          show Run _ _ _ _ _ _ [_, _, _, _, _, _] _ _ _
          refine Run.iload_n d_Rf_all_50 rfl ?_
          first | refine Run.if_eq_b d_Rf_all_51 (fun c51 => ?_) (fun c51 => ?_) | refine Run.if_eq_n d_Rf_all_51 (by omega) (fun c51 => ?_) (fun c51 => ?_) | refine Run.if_eq d_Rf_all_51 (fun c51 => ?_) (fun c51 => ?_)
          · refine Run.iconst (v := nI 0) d_Rf_all_65 ic_0 ?_
            refine Run.istore_n d_Rf_all_66 rfl rfl ?_
            show Run _ _ _ _ _ _ [_, _, _, _, _, _] _ _ _
            refine Run.iload_n d_Rf_all_67 rfl ?_
            refine Run.iload d_Rf_all_68 rfl ?_
            first | refine Run.iadd_n d_Rf_all_70 ?_ | refine Run.iadd d_Rf_all_70 ?_
            refine Run.istore_n d_Rf_all_71 rfl rfl ?_
            show Run _ _ _ _ _ _ [_, _, _, _, _, _] _ _ _
            first | refine Run.iinc_n d_Rf_all_72 ic_1 rfl rfl ?_ | refine Run.iinc d_Rf_all_72 rfl rfl rfl ?_
            show Run _ _ _ _ _ _ [_, _, _, _, _, _] _ _ _
            refine Run.goto d_Rf_all_75 ?_
            exact ih c27 _ _ _ (Or.inr ⟨by show allF c p j i _ = _; rw [ha, allF_none], rfl⟩)
          · omega
    refine Run.iload d_Rf_all_22 rfl ?_
    refine Run.iconst (v := nI 5) d_Rf_all_24 ic_5 ?_
    first | refine Run.icmp_ge_n d_Rf_all_25 (by omega) (by omega) (fun c25 => ?_) (fun c25 => ?_) | refine Run.icmp_ge d_Rf_all_25 (fun c25 => ?_) (fun c25 => ?_)
    · have e5 : i = 5 := by omega
      subst e5
      refine Run.iload_n d_Rf_all_78 rfl ?_
      first | refine Run.if_eq_b d_Rf_all_79 (fun c79 => ?_) (fun c79 => ?_) | refine Run.if_eq_n d_Rf_all_79 (by omega) (fun c79 => ?_) (fun c79 => ?_) | refine Run.if_eq d_Rf_all_79 (fun c79 => ?_) (fun c79 => ?_)
      · refine Run.bipush (v := -9) d_Rf_all_86 bp_m9 ?_
        refine Run.iret d_Rf_all_88 rfl rfl ?_
        rcases ha with ⟨a, ha, rfl, rfl⟩ | ⟨ha, rfl⟩ <;> first | omega | exact ret_i (by rw [allN, ha]; rfl)
      · refine Run.iload_n d_Rf_all_82 rfl ?_
        refine Run.goto d_Rf_all_83 ?_
        refine Run.iret d_Rf_all_88 rfl rfl ?_
        rcases ha with ⟨a, ha, rfl, rfl⟩ | ⟨ha, rfl⟩ <;> first | omega | exact ret_i (by rw [allN, ha]; rfl)
    · refine Run.aload_n d_Rf_all_28 rfl ?_
      refine Run.iload_n d_Rf_all_29 rfl ?_
      refine Run.V1r d_Rf_all_30 lk_Rf_180 cm_Rf_partsHeld iv_Rf_partsHeld rfl (by first | rfl | assumption) (Nat.le_of_ble_eq_true rfl) (Nat.le_of_ble_eq_true rfl) (c_Rf_partsHeld hc hp hr hg (by omega)) ?_
      refine Run.iload d_Rf_all_33 rfl ?_
      refine Run.S2r d_Rf_all_35 lk_Rf_127 cm_Rf_has st_Rf_has (Nat.le_of_ble_eq_true rfl) (Nat.le_of_ble_eq_true rfl) (c_Rf_has (by omega) (by omega)) ?_
      first | refine Run.if_eq_b d_Rf_all_38 (fun c38 => ?_) (fun c38 => ?_) | refine Run.if_eq_n d_Rf_all_38 (by omega) (fun c38 => ?_) (fun c38 => ?_) | refine Run.if_eq d_Rf_all_38 (fun c38 => ?_) (fun c38 => ?_)
      · first | refine Run.iinc_n d_Rf_all_72 ic_1 rfl rfl ?_ | refine Run.iinc d_Rf_all_72 rfl rfl rfl ?_
        show Run _ _ _ _ _ _ [_, _, _, _, _, _] _ _ _
        refine Run.goto d_Rf_all_75 ?_
        refine ih c25 _ _ _ ?_
        have e1 : itN (allF c p j) (some 0) (i + 1) = itN (allF c p j) (some 0) i := by
          show allF c p j i _ = _
          simp [allF, c38]
        rw [e1]
        exact ha
      · refine Run.aload_n d_Rf_all_41 rfl ?_
        refine Run.iload_n d_Rf_all_42 rfl ?_
        refine Run.iload d_Rf_all_43 rfl ?_
        refine Run.V2r d_Rf_all_45 lk_Rf_177 cm_Rf_findsOf iv_Rf_findsOf rfl (by first | rfl | assumption) (Nat.le_of_ble_eq_true rfl) (Nat.le_of_ble_eq_true rfl) (c_Rf_findsOf hc hp hr hg hj (by omega)) ?_
        exact h48 c25 c38
  refine Run.aload_n d_Rf_all_0 rfl ?_
  refine Run.iconst (v := nI 0) d_Rf_all_1 ic_0 ?_
  refine Run.putf d_Rf_all_2 fl_Rf_59 (fun _ => rfl) (fun _ => rfl) (by first | rfl | assumption) (by exact Nat.le_of_ble_eq_true rfl) ?_
  refine run_hp (set_same g0) ?_
  refine Run.aload_n d_Rf_all_5 rfl ?_
  refine Run.iload_n d_Rf_all_6 rfl ?_
  refine Run.V1r d_Rf_all_7 lk_Rf_149 cm_Rf_noHolder iv_Rf_noHolder rfl (by first | rfl | assumption) (Nat.le_of_ble_eq_true rfl) (Nat.le_of_ble_eq_true rfl) (c_Rf_noHolder hc hr) ?_
  first | refine Run.if_eq_b d_Rf_all_10 (fun c10 => ?_) (fun c10 => ?_) | refine Run.if_eq_n d_Rf_all_10 (by omega) (fun c10 => ?_) (fun c10 => ?_) | refine Run.if_eq d_Rf_all_10 (fun c10 => ?_) (fun c10 => ?_)
  · rw [Bool.not_eq_false'] at c10
    obtain ⟨j, hj, rfl⟩ := inB_t (by omega) c10
    have tj : tn (nI j) = j := tn_nI (by omega)
    refine Run.iconst (v := nI 0) d_Rf_all_15 ic_0 ?_
    refine Run.istore_n d_Rf_all_16 rfl rfl ?_
    show Run _ _ _ _ _ _ [_, _, _, _, _, _] _ _ _
    refine Run.iconst (v := nI 1) d_Rf_all_17 ic_1 ?_
    refine Run.istore_n d_Rf_all_18 rfl rfl ?_
    show Run _ _ _ _ _ _ [_, _, _, _, _, _] _ _ _
    refine Run.iconst (v := nI 0) d_Rf_all_19 ic_0 ?_
    refine Run.istore d_Rf_all_20 rfl rfl ?_
    show Run _ _ _ _ _ _ [_, _, _, _, _, _] _ _ _
    rw [show allR c p (nI j) = oI (allN c p j) by simp [allR, c10, tj]]
    exact key j hj
  · rw [Bool.not_eq_true'] at c10
    refine Run.iconst (v := -1) d_Rf_all_13 ic_m1 ?_
    refine Run.iret d_Rf_all_14 rfl rfl ?_
    exact ret_i (by simp [allR, c10])
theorem c_PM_holder {y w : Int32} (hc : coOK c) (hp : pgOK c p) (ht : TlAt h c) (hst : StAt h 15 c p) : Call X (d + 6) 0 0 M_PM_holder [.ref 1, .int y, .int w] h (Ret (.int (holderR c p y w)) h) := by
  show Run X (d + 6) 0 0 M_PM_holder 0 [some (.ref 1), some (.int y), some (.int w)] [] h _
  obtain ⟨kt, kd, sd, h0, hco⟩ := id ht
  obtain ⟨fhk, fpt, fan, fkd, fhd, li, g0, g1, g2, g3, g4, g5, hv1, hv2⟩ := id hco
  have b1 := hc.1
  refine Run.aload_n d_PM_holder_0 rfl ?_
  refine Run.getf d_PM_holder_1 fl_PM_19 (by first | rfl | assumption) (by rfl) ?_
  refine Run.iload_n d_PM_holder_4 rfl ?_
  refine Run.V1r d_PM_holder_5 lk_PM_119 cm_Co_hasHolder iv_Co_hasHolder rfl (by first | rfl | assumption) (Nat.le_of_ble_eq_true rfl) (Nat.le_of_ble_eq_true rfl) (c_Co_hasHolder hco) ?_
  first | refine Run.if_ne_b d_PM_holder_8 (fun c8 => ?_) (fun c8 => ?_) | refine Run.if_ne_n d_PM_holder_8 (by omega) (fun c8 => ?_) (fun c8 => ?_) | refine Run.if_ne d_PM_holder_8 (fun c8 => ?_) (fun c8 => ?_)
  · obtain ⟨j, hj, rfl⟩ := inB_t (by omega) c8
    have tj : tn (nI j) = j := tn_nI (by omega)
    refine Run.iload_n d_PM_holder_13 rfl ?_
    rcases pk_ix w (n := 3) (by omega) with q14 | q14 | ⟨j14, q14, rfl⟩
    · refine Run.tswOut (tgt := 67) d_PM_holder_14 (Or.inl (sw_lt q14)) rfl ?_
      refine Run.bipush (v := -2) d_PM_holder_67 bp_m2 ?_
      refine Run.iret d_PM_holder_69 rfl rfl ?_
      first
      | exact ret_i (by rw [holderR, c8, swN_lt q14]; rfl)
      | exact ret_i (by rw [holderR, c8, swN_ge q14]; rfl)
    · refine Run.tswOut (tgt := 67) d_PM_holder_14 (Or.inr (by have := sw_ge (by omega) q14; omega)) rfl ?_
      refine Run.bipush (v := -2) d_PM_holder_67 bp_m2 ?_
      refine Run.iret d_PM_holder_69 rfl rfl ?_
      first
      | exact ret_i (by rw [holderR, c8, swN_lt q14]; rfl)
      | exact ret_i (by rw [holderR, c8, swN_ge q14]; rfl)
    · rcases (show j14 = 0 ∨ j14 = 1 ∨ j14 = 2 by omega) with rfl | rfl | rfl
      · refine Run.tswIn (off := 26) (tgt := 40) d_PM_holder_14 (by decide +kernel) (by decide +kernel) (by decide +kernel) rfl ?_
        refine Run.aload_n d_PM_holder_40 rfl ?_
        refine Run.getf d_PM_holder_41 fl_PM_19 (by first | rfl | assumption) (by rfl) ?_
        refine Run.getf d_PM_holder_44 fl_PM_122 (by first | rfl | assumption) (by rfl) ?_
        refine Run.iload_n d_PM_holder_47 rfl ?_
        refine Run.iald_n d_PM_holder_48 (by first | rfl | assumption) (by omega) (by omega) ?_
        rw [hv1 j hj]
        refine Run.iret d_PM_holder_49 rfl rfl ?_
        exact ret_i (by rw [holderR, c8, swN_in (by omega) (by omega), tj]; rfl)
      · refine Run.tswIn (off := 36) (tgt := 50) d_PM_holder_14 (by decide +kernel) (by decide +kernel) (by decide +kernel) rfl ?_
        refine Run.aload_n d_PM_holder_50 rfl ?_
        refine Run.iload_n d_PM_holder_51 rfl ?_
        refine Run.V1r d_PM_holder_52 lk_PM_125 cm_PM_piecesOf iv_PM_piecesOf rfl (by first | rfl | assumption) (Nat.le_of_ble_eq_true rfl) (Nat.le_of_ble_eq_true rfl) (c_PM_piecesOf hc hp ht hst (by omega)) ?_
        refine Run.iret d_PM_holder_55 rfl rfl ?_
        exact ret_i (by rw [holderR, c8, swN_in (by omega) (by omega), tj]; rfl)
      · refine Run.tswIn (off := 42) (tgt := 56) d_PM_holder_14 (by decide +kernel) (by decide +kernel) (by decide +kernel) rfl ?_
        refine Run.aload_n d_PM_holder_56 rfl ?_
        refine Run.aload_n d_PM_holder_57 rfl ?_
        refine Run.getf d_PM_holder_58 fl_PM_29 (by first | rfl | assumption) (by rfl) ?_
        refine Run.iload_n d_PM_holder_61 rfl ?_
        refine Run.iconst (v := nI 0) d_PM_holder_62 ic_0 ?_
        refine Run.V3r d_PM_holder_63 lk_PM_129 cm_PM_partsSeen iv_PM_partsSeen rfl (by first | rfl | assumption) (Nat.le_of_ble_eq_true rfl) (Nat.le_of_ble_eq_true rfl) (c_PM_partsSeen hc hp ht hst hj (by omega)) ?_
        rw [hourN_0 hp]
        refine Run.iret d_PM_holder_66 rfl rfl ?_
        exact ret_i (by rw [holderR, c8, swN_in (by omega) (by omega), tj]; rfl)
  · refine Run.iconst (v := -1) d_PM_holder_11 ic_m1 ?_
    refine Run.iret d_PM_holder_12 rfl rfl ?_
    exact ret_i (by simp [holderR, c8])
theorem c_Rf_holder {y w : Int32} (hc : coOK c) (hp : pgOK c p) (hr : RfAt h c) (hg : PgAt h 49 c p) : Call X (d + 5) 0 0 M_Rf_holder [.ref 44, .int y, .int w] h (Ret (.int (holderR c p y w)) h) := by
  show Run X (d + 5) 0 0 M_Rf_holder 0 [some (.ref 44), some (.int y), some (.int w)] [] h _
  obtain ⟨ts, pl, rl, rh, rp, ac, tu, sd, mm, mf, rm, rf, fh, fp, g0, g1, g2, hu1, hu2⟩ := id hr
  have b1 := hc.1
  have b2 := hc.2.1
  refine Run.aload_n d_Rf_holder_0 rfl ?_
  refine Run.iconst (v := nI 0) d_Rf_holder_1 ic_0 ?_
  refine Run.putf d_Rf_holder_2 fl_Rf_59 (fun _ => rfl) (fun _ => rfl) (by first | rfl | assumption) (by exact Nat.le_of_ble_eq_true rfl) ?_
  refine run_hp (set_same g0) ?_
  refine Run.aload_n d_Rf_holder_5 rfl ?_
  refine Run.iload_n d_Rf_holder_6 rfl ?_
  refine Run.V1r d_Rf_holder_7 lk_Rf_149 cm_Rf_noHolder iv_Rf_noHolder rfl (by first | rfl | assumption) (Nat.le_of_ble_eq_true rfl) (Nat.le_of_ble_eq_true rfl) (c_Rf_noHolder hc hr) ?_
  first | refine Run.if_eq_b d_Rf_holder_10 (fun c10 => ?_) (fun c10 => ?_) | refine Run.if_eq_n d_Rf_holder_10 (by omega) (fun c10 => ?_) (fun c10 => ?_) | refine Run.if_eq d_Rf_holder_10 (fun c10 => ?_) (fun c10 => ?_)
  · rw [Bool.not_eq_false'] at c10
    obtain ⟨j, hj, rfl⟩ := inB_t (by omega) c10
    have tj : tn (nI j) = j := tn_nI (by omega)
    refine Run.iload_n d_Rf_holder_15 rfl ?_
    rcases pk_ix w (n := 3) (by omega) with q16 | q16 | ⟨j16, q16, rfl⟩
    · refine Run.tswOut (tgt := 73) d_Rf_holder_16 (Or.inl (sw_lt q16)) rfl ?_
      refine Run.bipush (v := -2) d_Rf_holder_73 bp_m2 ?_
      refine Run.iret d_Rf_holder_75 rfl rfl ?_
      first
      | exact ret_i (by rw [holderR, c10, swN_lt q16]; rfl)
      | exact ret_i (by rw [holderR, c10, swN_ge q16]; rfl)
    · refine Run.tswOut (tgt := 73) d_Rf_holder_16 (Or.inr (by have := sw_ge (by omega) q16; omega)) rfl ?_
      refine Run.bipush (v := -2) d_Rf_holder_73 bp_m2 ?_
      refine Run.iret d_Rf_holder_75 rfl rfl ?_
      first
      | exact ret_i (by rw [holderR, c10, swN_lt q16]; rfl)
      | exact ret_i (by rw [holderR, c10, swN_ge q16]; rfl)
    · rcases (show j16 = 0 ∨ j16 = 1 ∨ j16 = 2 by omega) with rfl | rfl | rfl
      · refine Run.tswIn (off := 28) (tgt := 44) d_Rf_holder_16 (by decide +kernel) (by decide +kernel) (by decide +kernel) rfl ?_
        refine Run.aload_n d_Rf_holder_44 rfl ?_
        refine Run.getf d_Rf_holder_45 fl_Rf_13 (by first | rfl | assumption) (by rfl) ?_
        refine Run.iload_n d_Rf_holder_48 rfl ?_
        refine Run.iald_n d_Rf_holder_49 (by first | rfl | assumption) (by omega) (by omega) ?_
        rw [hu1 j hj]
        refine Run.iret d_Rf_holder_50 rfl rfl ?_
        exact ret_i (by rw [holderR, c10, swN_in (by omega) (by omega), tj]; rfl)
      · refine Run.tswIn (off := 35) (tgt := 51) d_Rf_holder_16 (by decide +kernel) (by decide +kernel) (by decide +kernel) rfl ?_
        refine Run.aload_n d_Rf_holder_51 rfl ?_
        refine Run.aload_n d_Rf_holder_52 rfl ?_
        refine Run.getf d_Rf_holder_53 fl_Rf_25 (by first | rfl | assumption) (by rfl) ?_
        refine Run.iload_n d_Rf_holder_56 rfl ?_
        refine Run.V2r d_Rf_holder_57 lk_Rf_153 cm_Rf_heldBy iv_Rf_heldBy rfl (by first | rfl | assumption) (Nat.le_of_ble_eq_true rfl) (Nat.le_of_ble_eq_true rfl) (c_Rf_heldBy hc hp hr hg (by omega)) ?_
        refine Run.iret d_Rf_holder_60 rfl rfl ?_
        exact ret_i (by rw [holderR, c10, swN_in (by omega) (by omega), tj]; rfl)
      · refine Run.tswIn (off := 45) (tgt := 61) d_Rf_holder_16 (by decide +kernel) (by decide +kernel) (by decide +kernel) rfl ?_
        refine Run.aload_n d_Rf_holder_61 rfl ?_
        refine Run.aload_n d_Rf_holder_62 rfl ?_
        refine Run.getf d_Rf_holder_63 fl_Rf_25 (by first | rfl | assumption) (by rfl) ?_
        refine Run.iload_n d_Rf_holder_66 rfl ?_
        refine Run.bipush (v := nI 63) d_Rf_holder_67 bp_63 ?_
        refine Run.V3r d_Rf_holder_69 lk_Rf_135 cm_Rf_seesOf iv_Rf_seesOf rfl (by first | rfl | assumption) (Nat.le_of_ble_eq_true rfl) (Nat.le_of_ble_eq_true rfl) (c_Rf_seesOf hc hp hr hg (by omega) (by omega)) ?_
        rw [sesN_63 b2]
        refine Run.iret d_Rf_holder_72 rfl rfl ?_
        exact ret_i (by rw [holderR, c10, swN_in (by omega) (by omega), tj]; rfl)
  · rw [Bool.not_eq_true'] at c10
    refine Run.iconst (v := -1) d_Rf_holder_13 ic_m1 ?_
    refine Run.iret d_Rf_holder_14 rfl rfl ?_
    exact ret_i (by simp [holderR, c10])
theorem c_PM_piece {x w : Int32} (hc : coOK c) (hp : pgOK c p) (ht : TlAt h c) (hst : StAt h 15 c p) : Call X (d + 5) 0 0 M_PM_piece [.ref 1, .int x, .int w] h (Ret (.int (pieceR c p x w)) h) := by
  show Run X (d + 5) 0 0 M_PM_piece 0 [some (.ref 1), some (.int x), some (.int w)] [] h _
  obtain ⟨kt, kd, sd, h0, hco⟩ := id ht
  obtain ⟨fhk, fpt, fan, fkd, fhd, li, g0, g1, g2, g3, g4, g5, hv1, hv2⟩ := id hco
  obtain ⟨ft, fw, ke, s0, s1, s2, hw⟩ := id hst
  have b1 := hc.1
  have b2 := hc.2.1
  refine Run.aload_n d_PM_piece_0 rfl ?_
  refine Run.getf d_PM_piece_1 fl_PM_19 (by first | rfl | assumption) (by rfl) ?_
  refine Run.iload_n d_PM_piece_4 rfl ?_
  refine Run.V1r d_PM_piece_5 lk_PM_133 cm_Co_hasPiece iv_Co_hasPiece rfl (by first | rfl | assumption) (Nat.le_of_ble_eq_true rfl) (Nat.le_of_ble_eq_true rfl) (c_Co_hasPiece hco) ?_
  first | refine Run.if_ne_b d_PM_piece_8 (fun c8 => ?_) (fun c8 => ?_) | refine Run.if_ne_n d_PM_piece_8 (by omega) (fun c8 => ?_) (fun c8 => ?_) | refine Run.if_ne d_PM_piece_8 (fun c8 => ?_) (fun c8 => ?_)
  · obtain ⟨i, hi, rfl⟩ := inB_t (by omega) c8
    have ti : tn (nI i) = i := tn_nI (by omega)
    have w1 := (hp.2.2 i hi).2
    have e0 : (angN p i + 0) % 8 = angN p i := Nat.mod_mod _ _
    refine Run.iload_n d_PM_piece_13 rfl ?_
    rcases pk_ix w (n := 7) (by omega) with q14 | q14 | ⟨j14, q14, rfl⟩
    · refine Run.tswOut (tgt := 143) d_PM_piece_14 (Or.inl (sw_lt q14)) rfl ?_
      refine Run.bipush (v := -2) d_PM_piece_143 bp_m2 ?_
      refine Run.iret d_PM_piece_145 rfl rfl ?_
      first
      | exact ret_i (by rw [pieceR, c8, swN_lt q14]; rfl)
      | exact ret_i (by rw [pieceR, c8, swN_ge q14]; rfl)
    · refine Run.tswOut (tgt := 143) d_PM_piece_14 (Or.inr (by have := sw_ge (by omega) q14; omega)) rfl ?_
      refine Run.bipush (v := -2) d_PM_piece_143 bp_m2 ?_
      refine Run.iret d_PM_piece_145 rfl rfl ?_
      first
      | exact ret_i (by rw [pieceR, c8, swN_lt q14]; rfl)
      | exact ret_i (by rw [pieceR, c8, swN_ge q14]; rfl)
    · rcases (show j14 = 0 ∨ j14 = 1 ∨ j14 = 2 ∨ j14 = 3 ∨ j14 = 4 ∨ j14 = 5 ∨ j14 = 6 by omega) with rfl | rfl | rfl | rfl | rfl | rfl | rfl
      · refine Run.tswIn (off := 42) (tgt := 56) d_PM_piece_14 (by decide +kernel) (by decide +kernel) (by decide +kernel) rfl ?_
        refine Run.aload_n d_PM_piece_56 rfl ?_
        refine Run.getf d_PM_piece_57 fl_PM_19 (by first | rfl | assumption) (by rfl) ?_
        refine Run.getf d_PM_piece_60 fl_PM_136 (by first | rfl | assumption) (by rfl) ?_
        refine Run.iload_n d_PM_piece_63 rfl ?_
        refine Run.iald_n d_PM_piece_64 (by first | rfl | assumption) (by omega) (by omega) ?_
        rw [(hv2 i hi).1]
        refine Run.iret d_PM_piece_65 rfl rfl ?_
        exact ret_i (by rw [pieceR, c8, swN_in (by omega) (by omega), ti]; rfl)
      · refine Run.tswIn (off := 52) (tgt := 66) d_PM_piece_14 (by decide +kernel) (by decide +kernel) (by decide +kernel) rfl ?_
        refine Run.aload_n d_PM_piece_66 rfl ?_
        refine Run.getf d_PM_piece_67 fl_PM_19 (by first | rfl | assumption) (by rfl) ?_
        refine Run.getf d_PM_piece_70 fl_PM_139 (by first | rfl | assumption) (by rfl) ?_
        refine Run.iload_n d_PM_piece_73 rfl ?_
        refine Run.iald_n d_PM_piece_74 (by first | rfl | assumption) (by omega) (by omega) ?_
        rw [(hv2 i hi).2.1]
        refine Run.iret d_PM_piece_75 rfl rfl ?_
        exact ret_i (by rw [pieceR, c8, swN_in (by omega) (by omega), ti]; rfl)
      · refine Run.tswIn (off := 62) (tgt := 76) d_PM_piece_14 (by decide +kernel) (by decide +kernel) (by decide +kernel) rfl ?_
        refine Run.aload_n d_PM_piece_76 rfl ?_
        refine Run.getf d_PM_piece_77 fl_PM_19 (by first | rfl | assumption) (by rfl) ?_
        refine Run.getf d_PM_piece_80 fl_PM_142 (by first | rfl | assumption) (by rfl) ?_
        refine Run.iload_n d_PM_piece_83 rfl ?_
        refine Run.iald_n d_PM_piece_84 (by first | rfl | assumption) (by omega) (by omega) ?_
        rw [(hv2 i hi).2.2]
        refine Run.iret d_PM_piece_85 rfl rfl ?_
        exact ret_i (by rw [pieceR, c8, swN_in (by omega) (by omega), ti]; rfl)
      · refine Run.tswIn (off := 72) (tgt := 86) d_PM_piece_14 (by decide +kernel) (by decide +kernel) (by decide +kernel) rfl ?_
        refine Run.aload_n d_PM_piece_86 rfl ?_
        refine Run.getf d_PM_piece_87 fl_PM_29 (by first | rfl | assumption) (by rfl) ?_
        refine Run.getf d_PM_piece_90 fl_PM_145 (by first | rfl | assumption) (by rfl) ?_
        refine Run.iload_n d_PM_piece_93 rfl ?_
        refine Run.iald_n d_PM_piece_94 (by first | rfl | assumption) (by omega) (by omega) ?_
        rw [(hw i hi).1]
        refine Run.iret d_PM_piece_95 rfl rfl ?_
        exact ret_i (by rw [pieceR, c8, swN_in (by omega) (by omega), ti]; rfl)
      · refine Run.tswIn (off := 82) (tgt := 96) d_PM_piece_14 (by decide +kernel) (by decide +kernel) (by decide +kernel) rfl ?_
        refine Run.aload_n d_PM_piece_96 rfl ?_
        refine Run.getf d_PM_piece_97 fl_PM_29 (by first | rfl | assumption) (by rfl) ?_
        refine Run.getf d_PM_piece_100 fl_PM_148 (by first | rfl | assumption) (by rfl) ?_
        refine Run.iload_n d_PM_piece_103 rfl ?_
        refine Run.iald_n d_PM_piece_104 (by first | rfl | assumption) (by omega) (by omega) ?_
        rw [(hw i hi).2]
        refine Run.iret d_PM_piece_105 rfl rfl ?_
        exact ret_i (by rw [pieceR, c8, swN_in (by omega) (by omega), ti]; rfl)
      · refine Run.tswIn (off := 92) (tgt := 106) d_PM_piece_14 (by decide +kernel) (by decide +kernel) (by decide +kernel) rfl ?_
        refine Run.aload_n d_PM_piece_106 rfl ?_
        refine Run.getf d_PM_piece_107 fl_PM_29 (by first | rfl | assumption) (by rfl) ?_
        refine Run.iload_n d_PM_piece_110 rfl ?_
        refine Run.V1r d_PM_piece_111 lk_PM_151 cm_St_angleOf iv_St_angleOf rfl (by first | rfl | assumption) (Nat.le_of_ble_eq_true rfl) (Nat.le_of_ble_eq_true rfl) (c_St_angleOf hp hst hi b2) ?_
        refine Run.iret d_PM_piece_114 rfl rfl ?_
        exact ret_i (by rw [pieceR, c8, swN_in (by omega) (by omega), ti]; rfl)
      · refine Run.tswIn (off := 101) (tgt := 115) d_PM_piece_14 (by decide +kernel) (by decide +kernel) (by decide +kernel) rfl ?_
        refine Run.aload_n d_PM_piece_115 rfl ?_
        refine Run.aload_n d_PM_piece_116 rfl ?_
        refine Run.getf d_PM_piece_117 fl_PM_29 (by first | rfl | assumption) (by rfl) ?_
        refine Run.iload_n d_PM_piece_120 rfl ?_
        refine Run.aload_n d_PM_piece_121 rfl ?_
        refine Run.getf d_PM_piece_122 fl_PM_29 (by first | rfl | assumption) (by rfl) ?_
        refine Run.getf d_PM_piece_125 fl_PM_148 (by first | rfl | assumption) (by rfl) ?_
        refine Run.iload_n d_PM_piece_128 rfl ?_
        refine Run.iald_n d_PM_piece_129 (by first | rfl | assumption) (by omega) (by omega) ?_
        rw [(hw i hi).2]
        refine Run.iconst (v := nI 0) d_PM_piece_130 ic_0 ?_
        refine Run.V4r d_PM_piece_131 lk_PM_154 cm_PM_showsAfter iv_PM_showsAfter rfl (by first | rfl | assumption) (Nat.le_of_ble_eq_true rfl) (Nat.le_of_ble_eq_true rfl) (c_PM_showsAfter hc hp ht hst hi (by omega)) ?_
        rw [m8_nI, decide_eq_true w1, Bool.true_and, Nat.zero_mod, e0]
        first | refine Run.if_eq_b d_PM_piece_134 (fun c134 => ?_) (fun c134 => ?_) | refine Run.if_eq_n d_PM_piece_134 (by omega) (fun c134 => ?_) (fun c134 => ?_) | refine Run.if_eq d_PM_piece_134 (fun c134 => ?_) (fun c134 => ?_)
        · refine Run.iconst (v := nI 0) d_PM_piece_141 ic_0 ?_
          refine Run.iret d_PM_piece_142 rfl rfl ?_
          exact ret_i (by rw [pieceR, c8, swN_in (by omega) (by omega), ti, c134]; rfl)
        · refine Run.iconst (v := nI 1) d_PM_piece_137 ic_1 ?_
          refine Run.goto d_PM_piece_138 ?_
          refine Run.iret d_PM_piece_142 rfl rfl ?_
          exact ret_i (by rw [pieceR, c8, swN_in (by omega) (by omega), ti, c134]; rfl)
  · refine Run.iconst (v := -1) d_PM_piece_11 ic_m1 ?_
    refine Run.iret d_PM_piece_12 rfl rfl ?_
    exact ret_i (by simp [pieceR, c8])
theorem c_Rf_piece {x w : Int32} (hc : coOK c) (hp : pgOK c p) (hr : RfAt h c) (hg : PgAt h 49 c p) : Call X (d + 4) 0 0 M_Rf_piece [.ref 44, .int x, .int w] h (Ret (.int (pieceR c p x w)) h) := by
  show Run X (d + 4) 0 0 M_Rf_piece 0 [some (.ref 44), some (.int x), some (.int w)] [] h _
  obtain ⟨ts, pl, rl, rh, rp, ac, tu, sd, mm, mf, rm, rf, fh, fp, g0, g1, g2, hu1, hu2⟩ := id hr
  obtain ⟨f, s0, hv1, hv2, hv3⟩ := id hg
  have b1 := hc.1
  have b2 := hc.2.1
  refine Run.aload_n d_Rf_piece_0 rfl ?_
  refine Run.iconst (v := nI 0) d_Rf_piece_1 ic_0 ?_
  refine Run.putf d_Rf_piece_2 fl_Rf_59 (fun _ => rfl) (fun _ => rfl) (by first | rfl | assumption) (by exact Nat.le_of_ble_eq_true rfl) ?_
  refine run_hp (set_same g0) ?_
  refine Run.aload_n d_Rf_piece_5 rfl ?_
  refine Run.iload_n d_Rf_piece_6 rfl ?_
  refine Run.V1r d_Rf_piece_7 lk_Rf_156 cm_Rf_noPiece iv_Rf_noPiece rfl (by first | rfl | assumption) (Nat.le_of_ble_eq_true rfl) (Nat.le_of_ble_eq_true rfl) (c_Rf_noPiece hc hr) ?_
  first | refine Run.if_eq_b d_Rf_piece_10 (fun c10 => ?_) (fun c10 => ?_) | refine Run.if_eq_n d_Rf_piece_10 (by omega) (fun c10 => ?_) (fun c10 => ?_) | refine Run.if_eq d_Rf_piece_10 (fun c10 => ?_) (fun c10 => ?_)
  · rw [Bool.not_eq_false'] at c10
    obtain ⟨i, hi, rfl⟩ := inB_t (by omega) c10
    have ti : tn (nI i) = i := tn_nI (by omega)
    refine Run.iload_n d_Rf_piece_15 rfl ?_
    rcases pk_ix w (n := 7) (by omega) with q16 | q16 | ⟨j16, q16, rfl⟩
    · refine Run.tswOut (tgt := 117) d_Rf_piece_16 (Or.inl (sw_lt q16)) rfl ?_
      refine Run.bipush (v := -2) d_Rf_piece_117 bp_m2 ?_
      refine Run.iret d_Rf_piece_119 rfl rfl ?_
      first
      | exact ret_i (by rw [pieceR, c10, swN_lt q16]; rfl)
      | exact ret_i (by rw [pieceR, c10, swN_ge q16]; rfl)
    · refine Run.tswOut (tgt := 117) d_Rf_piece_16 (Or.inr (by have := sw_ge (by omega) q16; omega)) rfl ?_
      refine Run.bipush (v := -2) d_Rf_piece_117 bp_m2 ?_
      refine Run.iret d_Rf_piece_119 rfl rfl ?_
      first
      | exact ret_i (by rw [pieceR, c10, swN_lt q16]; rfl)
      | exact ret_i (by rw [pieceR, c10, swN_ge q16]; rfl)
    · rcases (show j16 = 0 ∨ j16 = 1 ∨ j16 = 2 ∨ j16 = 3 ∨ j16 = 4 ∨ j16 = 5 ∨ j16 = 6 by omega) with rfl | rfl | rfl | rfl | rfl | rfl | rfl
      · refine Run.tswIn (off := 44) (tgt := 60) d_Rf_piece_16 (by decide +kernel) (by decide +kernel) (by decide +kernel) rfl ?_
        refine Run.aload_n d_Rf_piece_60 rfl ?_
        refine Run.getf d_Rf_piece_61 fl_Rf_16 (by first | rfl | assumption) (by rfl) ?_
        refine Run.iconst (v := nI 3) d_Rf_piece_64 ic_3 ?_
        refine Run.iload_n d_Rf_piece_65 rfl ?_
        first | refine Run.imul_n d_Rf_piece_66 ?_ | refine Run.imul d_Rf_piece_66 ?_
        refine Run.iload_n d_Rf_piece_67 rfl ?_
        first | refine Run.iadd_n d_Rf_piece_68 ?_ | refine Run.iadd d_Rf_piece_68 ?_
        refine Run.iald_n d_Rf_piece_69 (by first | rfl | assumption) (by omega) (by omega) ?_
        first
        | rw [show 3 * i + 0 = 3 * i by omega, (hu2 i hi).1]
        | rw [(hu2 i hi).2.1]
        | rw [(hu2 i hi).2.2]
        refine Run.iret d_Rf_piece_70 rfl rfl ?_
        exact ret_i (by rw [pieceR, c10, swN_in (by omega) (by omega), ti]; rfl)
      · refine Run.tswIn (off := 44) (tgt := 60) d_Rf_piece_16 (by decide +kernel) (by decide +kernel) (by decide +kernel) rfl ?_
        refine Run.aload_n d_Rf_piece_60 rfl ?_
        refine Run.getf d_Rf_piece_61 fl_Rf_16 (by first | rfl | assumption) (by rfl) ?_
        refine Run.iconst (v := nI 3) d_Rf_piece_64 ic_3 ?_
        refine Run.iload_n d_Rf_piece_65 rfl ?_
        first | refine Run.imul_n d_Rf_piece_66 ?_ | refine Run.imul d_Rf_piece_66 ?_
        refine Run.iload_n d_Rf_piece_67 rfl ?_
        first | refine Run.iadd_n d_Rf_piece_68 ?_ | refine Run.iadd d_Rf_piece_68 ?_
        refine Run.iald_n d_Rf_piece_69 (by first | rfl | assumption) (by omega) (by omega) ?_
        first
        | rw [show 3 * i + 0 = 3 * i by omega, (hu2 i hi).1]
        | rw [(hu2 i hi).2.1]
        | rw [(hu2 i hi).2.2]
        refine Run.iret d_Rf_piece_70 rfl rfl ?_
        exact ret_i (by rw [pieceR, c10, swN_in (by omega) (by omega), ti]; rfl)
      · refine Run.tswIn (off := 44) (tgt := 60) d_Rf_piece_16 (by decide +kernel) (by decide +kernel) (by decide +kernel) rfl ?_
        refine Run.aload_n d_Rf_piece_60 rfl ?_
        refine Run.getf d_Rf_piece_61 fl_Rf_16 (by first | rfl | assumption) (by rfl) ?_
        refine Run.iconst (v := nI 3) d_Rf_piece_64 ic_3 ?_
        refine Run.iload_n d_Rf_piece_65 rfl ?_
        first | refine Run.imul_n d_Rf_piece_66 ?_ | refine Run.imul d_Rf_piece_66 ?_
        refine Run.iload_n d_Rf_piece_67 rfl ?_
        first | refine Run.iadd_n d_Rf_piece_68 ?_ | refine Run.iadd d_Rf_piece_68 ?_
        refine Run.iald_n d_Rf_piece_69 (by first | rfl | assumption) (by omega) (by omega) ?_
        first
        | rw [show 3 * i + 0 = 3 * i by omega, (hu2 i hi).1]
        | rw [(hu2 i hi).2.1]
        | rw [(hu2 i hi).2.2]
        refine Run.iret d_Rf_piece_70 rfl rfl ?_
        exact ret_i (by rw [pieceR, c10, swN_in (by omega) (by omega), ti]; rfl)
      · refine Run.tswIn (off := 55) (tgt := 71) d_Rf_piece_16 (by decide +kernel) (by decide +kernel) (by decide +kernel) rfl ?_
        refine Run.aload_n d_Rf_piece_71 rfl ?_
        refine Run.getf d_Rf_piece_72 fl_Rf_25 (by first | rfl | assumption) (by rfl) ?_
        refine Run.iconst (v := nI 0) d_Rf_piece_75 ic_0 ?_
        refine Run.iload_n d_Rf_piece_76 rfl ?_
        first | refine Run.iadd_n d_Rf_piece_77 ?_ | refine Run.iadd d_Rf_piece_77 ?_
        refine Run.iald_n d_Rf_piece_78 (by first | rfl | assumption) (by omega) (by omega) ?_
        rw [show 0 + i = i by omega, (hv1 i hi).1]
        refine Run.iret d_Rf_piece_79 rfl rfl ?_
        exact ret_i (by rw [pieceR, c10, swN_in (by omega) (by omega), ti]; rfl)
      · refine Run.tswIn (off := 64) (tgt := 80) d_Rf_piece_16 (by decide +kernel) (by decide +kernel) (by decide +kernel) rfl ?_
        refine Run.aload_n d_Rf_piece_80 rfl ?_
        refine Run.getf d_Rf_piece_81 fl_Rf_25 (by first | rfl | assumption) (by rfl) ?_
        refine Run.bipush (v := nI 6) d_Rf_piece_84 bp_6 ?_
        refine Run.iload_n d_Rf_piece_86 rfl ?_
        first | refine Run.iadd_n d_Rf_piece_87 ?_ | refine Run.iadd d_Rf_piece_87 ?_
        refine Run.iald_n d_Rf_piece_88 (by first | rfl | assumption) (by omega) (by omega) ?_
        rw [(hv1 i hi).2]
        refine Run.iret d_Rf_piece_89 rfl rfl ?_
        exact ret_i (by rw [pieceR, c10, swN_in (by omega) (by omega), ti]; rfl)
      · refine Run.tswIn (off := 74) (tgt := 90) d_Rf_piece_16 (by decide +kernel) (by decide +kernel) (by decide +kernel) rfl ?_
        refine Run.aload_n d_Rf_piece_90 rfl ?_
        refine Run.getf d_Rf_piece_91 fl_Rf_25 (by first | rfl | assumption) (by rfl) ?_
        refine Run.iload_n d_Rf_piece_94 rfl ?_
        refine Run.S2r d_Rf_piece_95 lk_Rf_119 cm_Rf_angleOf st_Rf_angleOf (Nat.le_of_ble_eq_true rfl) (Nat.le_of_ble_eq_true rfl) (c_Rf_angleOf hc hp hg hi) ?_
        refine Run.iret d_Rf_piece_98 rfl rfl ?_
        exact ret_i (by rw [pieceR, c10, swN_in (by omega) (by omega), ti]; rfl)
      · refine Run.tswIn (off := 83) (tgt := 99) d_Rf_piece_16 (by decide +kernel) (by decide +kernel) (by decide +kernel) rfl ?_
        refine Run.aload_n d_Rf_piece_99 rfl ?_
        refine Run.aload_n d_Rf_piece_100 rfl ?_
        refine Run.getf d_Rf_piece_101 fl_Rf_25 (by first | rfl | assumption) (by rfl) ?_
        refine Run.iload_n d_Rf_piece_104 rfl ?_
        refine Run.V2r d_Rf_piece_105 lk_Rf_131 cm_Rf_isShown iv_Rf_isShown rfl (by first | rfl | assumption) (Nat.le_of_ble_eq_true rfl) (Nat.le_of_ble_eq_true rfl) (c_Rf_isShown hc hp hr hg hi) ?_
        first | refine Run.if_eq_b d_Rf_piece_108 (fun c108 => ?_) (fun c108 => ?_) | refine Run.if_eq_n d_Rf_piece_108 (by omega) (fun c108 => ?_) (fun c108 => ?_) | refine Run.if_eq d_Rf_piece_108 (fun c108 => ?_) (fun c108 => ?_)
        · refine Run.iconst (v := nI 0) d_Rf_piece_115 ic_0 ?_
          refine Run.iret d_Rf_piece_116 rfl rfl ?_
          exact ret_i (by rw [pieceR, c10, swN_in (by omega) (by omega), ti, c108]; rfl)
        · refine Run.iconst (v := nI 1) d_Rf_piece_111 ic_1 ?_
          refine Run.goto d_Rf_piece_112 ?_
          refine Run.iret d_Rf_piece_116 rfl rfl ?_
          exact ret_i (by rw [pieceR, c10, swN_in (by omega) (by omega), ti, c108]; rfl)
  · rw [Bool.not_eq_true'] at c10
    refine Run.iconst (v := -1) d_Rf_piece_13 ic_m1 ?_
    refine Run.iret d_Rf_piece_14 rfl rfl ?_
    exact ret_i (by simp [pieceR, c10])
theorem c_PM_about {w : Int32} {na nt tl : Nat} (hc : coOK c) (hp : pgOK c p) (ht : TlAt h c) (hst : StAt h 15 c p) (hac : h[22]? = some (.inr (0, [.ref 24, .int (nI na)]))) {ta tb te : Value} {tf tg : Value} (htu : h[24]? = some (.inr (6, [ta, tb, .int (nI nt), tf, tg, te]))) (htx : h[1]? = some (.inr (5, [.ref 3, .int (nI tl)]))) : Call X (d + 7) 0 0 M_PM_about [.ref 1, .int w] h (Ret (.int (aboutR c p na nt tl w)) h) := by
  show Run X (d + 7) 0 0 M_PM_about 0 [some (.ref 1), some (.int w)] [] h _
  obtain ⟨kt, kd, sd, h0, hco⟩ := id ht
  obtain ⟨fhk, fpt, fan, fkd, fhd, li, g0, g1, g2, g3, g4, g5, hv1, hv2⟩ := id hco
  obtain ⟨ft, fw, ke, s0, s1, s2, hw⟩ := id hst
  refine Run.iload_n d_PM_about_0 rfl ?_
  rcases pk_ix w (n := 9) (by omega) with q1 | q1 | ⟨j1, q1, rfl⟩
  · refine Run.tswOut (tgt := 122) d_PM_about_1 (Or.inl (sw_lt q1)) rfl ?_
    refine Run.bipush (v := -2) d_PM_about_122 bp_m2 ?_
    refine Run.iret d_PM_about_124 rfl rfl ?_
    first
    | exact ret_i (by rw [aboutR, swN_lt q1])
    | exact ret_i (by rw [aboutR, swN_ge q1])
  · refine Run.tswOut (tgt := 122) d_PM_about_1 (Or.inr (by have := sw_ge (by omega) q1; omega)) rfl ?_
    refine Run.bipush (v := -2) d_PM_about_122 bp_m2 ?_
    refine Run.iret d_PM_about_124 rfl rfl ?_
    first
    | exact ret_i (by rw [aboutR, swN_lt q1])
    | exact ret_i (by rw [aboutR, swN_ge q1])
  · rcases (show j1 = 0 ∨ j1 = 1 ∨ j1 = 2 ∨ j1 = 3 ∨ j1 = 4 ∨ j1 = 5 ∨ j1 = 6 ∨ j1 = 7 ∨ j1 = 8 by omega) with rfl | rfl | rfl | rfl | rfl | rfl | rfl | rfl | rfl
    · refine Run.tswIn (off := 51) (tgt := 52) d_PM_about_1 (by decide +kernel) (by decide +kernel) (by decide +kernel) rfl ?_
      refine Run.aload_n d_PM_about_52 rfl ?_
      refine Run.getf d_PM_about_53 fl_PM_19 (by first | rfl | assumption) (by rfl) ?_
      refine Run.getf d_PM_about_56 fl_PM_98 (by first | rfl | assumption) (by rfl) ?_
      refine Run.iret d_PM_about_59 rfl rfl ?_
      exact ret_i (by rw [aboutR, swN_in (by omega) (by omega)]; rfl)
    · refine Run.tswIn (off := 59) (tgt := 60) d_PM_about_1 (by decide +kernel) (by decide +kernel) (by decide +kernel) rfl ?_
      refine Run.aload_n d_PM_about_60 rfl ?_
      refine Run.getf d_PM_about_61 fl_PM_19 (by first | rfl | assumption) (by rfl) ?_
      refine Run.getf d_PM_about_64 fl_PM_101 (by first | rfl | assumption) (by rfl) ?_
      refine Run.iret d_PM_about_67 rfl rfl ?_
      exact ret_i (by rw [aboutR, swN_in (by omega) (by omega)]; rfl)
    · refine Run.tswIn (off := 67) (tgt := 68) d_PM_about_1 (by decide +kernel) (by decide +kernel) (by decide +kernel) rfl ?_
      refine Run.aload_n d_PM_about_68 rfl ?_
      refine Run.getf d_PM_about_69 fl_PM_29 (by first | rfl | assumption) (by rfl) ?_
      refine Run.getf d_PM_about_72 fl_PM_104 (by first | rfl | assumption) (by rfl) ?_
      refine Run.iret d_PM_about_75 rfl rfl ?_
      exact ret_i (by rw [aboutR, swN_in (by omega) (by omega)]; rfl)
    · refine Run.tswIn (off := 75) (tgt := 76) d_PM_about_1 (by decide +kernel) (by decide +kernel) (by decide +kernel) rfl ?_
      refine Run.aload_n d_PM_about_76 rfl ?_
      refine Run.getf d_PM_about_77 fl_PM_29 (by first | rfl | assumption) (by rfl) ?_
      refine Run.getf d_PM_about_80 fl_PM_107 (by first | rfl | assumption) (by rfl) ?_
      refine Run.iret d_PM_about_83 rfl rfl ?_
      exact ret_i (by rw [aboutR, swN_in (by omega) (by omega)]; rfl)
    · refine Run.tswIn (off := 83) (tgt := 84) d_PM_about_1 (by decide +kernel) (by decide +kernel) (by decide +kernel) rfl ?_
      refine Run.aload_n d_PM_about_84 rfl ?_
      refine Run.aload_n d_PM_about_85 rfl ?_
      refine Run.getf d_PM_about_86 fl_PM_29 (by first | rfl | assumption) (by rfl) ?_
      refine Run.V1r d_PM_about_89 lk_PM_110 cm_PM_whoSeesHerLook iv_PM_whoSeesHerLook rfl (by first | rfl | assumption) (Nat.le_of_ble_eq_true rfl) (Nat.le_of_ble_eq_true rfl) (c_PM_whoSeesHerLook hc hp ht hst) ?_
      refine Run.iret d_PM_about_92 rfl rfl ?_
      exact ret_i (by rw [aboutR, swN_in (by omega) (by omega)]; rfl)
    · refine Run.tswIn (off := 92) (tgt := 93) d_PM_about_1 (by decide +kernel) (by decide +kernel) (by decide +kernel) rfl ?_
      refine Run.aload_n d_PM_about_93 rfl ?_
      refine Run.V0r d_PM_about_94 lk_PM_114 cm_PM_partsSeenTogether iv_PM_partsSeenTogether rfl (by first | rfl | assumption) (Nat.le_of_ble_eq_true rfl) (Nat.le_of_ble_eq_true rfl) (c_PM_partsSeenTogether hc hp ht hst) ?_
      refine Run.iret d_PM_about_97 rfl rfl ?_
      exact ret_i (by rw [aboutR, swN_in (by omega) (by omega)]; rfl)
    · refine Run.tswIn (off := 97) (tgt := 98) d_PM_about_1 (by decide +kernel) (by decide +kernel) (by decide +kernel) rfl ?_
      refine Run.aload_n d_PM_about_98 rfl ?_
      refine Run.getf d_PM_about_99 fl_PM_43 (by first | rfl | assumption) (by rfl) ?_
      refine Run.getf d_PM_about_102 fl_PM_91 (by first | rfl | assumption) (by rfl) ?_
      refine Run.iret d_PM_about_105 rfl rfl ?_
      exact ret_i (by rw [aboutR, swN_in (by omega) (by omega)]; rfl)
    · refine Run.tswIn (off := 105) (tgt := 106) d_PM_about_1 (by decide +kernel) (by decide +kernel) (by decide +kernel) rfl ?_
      refine Run.aload_n d_PM_about_106 rfl ?_
      refine Run.getf d_PM_about_107 fl_PM_50 (by first | rfl | assumption) (by rfl) ?_
      refine Run.getf d_PM_about_110 fl_PM_118 (by first | rfl | assumption) (by rfl) ?_
      refine Run.iret d_PM_about_113 rfl rfl ?_
      exact ret_i (by rw [aboutR, swN_in (by omega) (by omega)]; rfl)
    · refine Run.tswIn (off := 113) (tgt := 114) d_PM_about_1 (by decide +kernel) (by decide +kernel) (by decide +kernel) rfl ?_
      refine Run.aload_n d_PM_about_114 rfl ?_
      refine Run.getf d_PM_about_115 fl_PM_12 (by first | rfl | assumption) (by rfl) ?_
      refine Run.getf d_PM_about_118 fl_PM_79 (by first | rfl | assumption) (by rfl) ?_
      refine Run.iret d_PM_about_121 rfl rfl ?_
      exact ret_i (by rw [aboutR, swN_in (by omega) (by omega)]; rfl)
theorem c_Rf_about {w : Int32} {na nt tl : Nat} {pl rl rh rp : Int32} {sd : Int64} {mm mf rm rf : Int32} (hc : coOK c) (hp : pgOK c p) (hr : RfAt h c) (hg : PgAt h 49 c p) (g0 : h[43]? = some (.inr (8, [.int (nI 0), .ref 45, .int (nI tl), .int pl, .int (nI (nhC c)), .ref 46, .int (nI (npC c)), .ref 47, .int rl, .int rh, .ref 48, .int rp, .ref 49, .ref 50, .ref 51, .ref 52, .int (nI na), .ref 53, .ref 54, .int (nI nt), .ref 55, .ref 56, .long sd, .int mm, .int mf, .int rm, .int rf, .ref 57, .ref 58, .ref 59, .ref 60]))) : Call X (d + 6) 0 0 M_Rf_about [.ref 44, .int w] h (Ret (.int (aboutR c p na nt tl w)) h) := by
  show Run X (d + 6) 0 0 M_Rf_about 0 [some (.ref 44), some (.int w)] [] h _
  obtain ⟨f, s0, hv1, hv2, hv3⟩ := id hg
  have b2 := hc.2.1
  refine Run.aload_n d_Rf_about_0 rfl ?_
  refine Run.iconst (v := nI 0) d_Rf_about_1 ic_0 ?_
  refine Run.putf d_Rf_about_2 fl_Rf_59 (fun _ => rfl) (fun _ => rfl) (by first | rfl | assumption) (by exact Nat.le_of_ble_eq_true rfl) ?_
  refine run_hp (set_same g0) ?_
  refine Run.iload_n d_Rf_about_5 rfl ?_
  rcases pk_ix w (n := 9) (by omega) with q6 | q6 | ⟨j6, q6, rfl⟩
  · refine Run.tswOut (tgt := 117) d_Rf_about_6 (Or.inl (sw_lt q6)) rfl ?_
    refine Run.bipush (v := -2) d_Rf_about_117 bp_m2 ?_
    refine Run.iret d_Rf_about_119 rfl rfl ?_
    first
    | exact ret_i (by rw [aboutR, swN_lt q6])
    | exact ret_i (by rw [aboutR, swN_ge q6])
  · refine Run.tswOut (tgt := 117) d_Rf_about_6 (Or.inr (by have := sw_ge (by omega) q6; omega)) rfl ?_
    refine Run.bipush (v := -2) d_Rf_about_117 bp_m2 ?_
    refine Run.iret d_Rf_about_119 rfl rfl ?_
    first
    | exact ret_i (by rw [aboutR, swN_lt q6])
    | exact ret_i (by rw [aboutR, swN_ge q6])
  · rcases (show j6 = 0 ∨ j6 = 1 ∨ j6 = 2 ∨ j6 = 3 ∨ j6 = 4 ∨ j6 = 5 ∨ j6 = 6 ∨ j6 = 7 ∨ j6 = 8 by omega) with rfl | rfl | rfl | rfl | rfl | rfl | rfl | rfl | rfl
    · refine Run.tswIn (off := 50) (tgt := 56) d_Rf_about_6 (by decide +kernel) (by decide +kernel) (by decide +kernel) rfl ?_
      refine Run.aload_n d_Rf_about_56 rfl ?_
      refine Run.getf d_Rf_about_57 fl_Rf_63 (by first | rfl | assumption) (by rfl) ?_
      refine Run.iret d_Rf_about_60 rfl rfl ?_
      exact ret_i (by rw [aboutR, swN_in (by omega) (by omega)]; rfl)
    · refine Run.tswIn (off := 55) (tgt := 61) d_Rf_about_6 (by decide +kernel) (by decide +kernel) (by decide +kernel) rfl ?_
      refine Run.aload_n d_Rf_about_61 rfl ?_
      refine Run.getf d_Rf_about_62 fl_Rf_70 (by first | rfl | assumption) (by rfl) ?_
      refine Run.iret d_Rf_about_65 rfl rfl ?_
      exact ret_i (by rw [aboutR, swN_in (by omega) (by omega)]; rfl)
    · refine Run.tswIn (off := 60) (tgt := 66) d_Rf_about_6 (by decide +kernel) (by decide +kernel) (by decide +kernel) rfl ?_
      refine Run.aload_n d_Rf_about_66 rfl ?_
      refine Run.getf d_Rf_about_67 fl_Rf_25 (by first | rfl | assumption) (by rfl) ?_
      refine Run.bipush (v := nI 12) d_Rf_about_70 bp_12 ?_
      refine Run.iald_n d_Rf_about_72 (by first | rfl | assumption) (by omega) (by omega) ?_
      rw [hv2]
      refine Run.iret d_Rf_about_73 rfl rfl ?_
      exact ret_i (by rw [aboutR, swN_in (by omega) (by omega)]; rfl)
    · refine Run.tswIn (off := 68) (tgt := 74) d_Rf_about_6 (by decide +kernel) (by decide +kernel) (by decide +kernel) rfl ?_
      refine Run.aload_n d_Rf_about_74 rfl ?_
      refine Run.getf d_Rf_about_75 fl_Rf_25 (by first | rfl | assumption) (by rfl) ?_
      refine Run.bipush (v := nI 13) d_Rf_about_78 bp_13 ?_
      refine Run.iald_n d_Rf_about_80 (by first | rfl | assumption) (by omega) (by omega) ?_
      rw [hv3]
      refine Run.iret d_Rf_about_81 rfl rfl ?_
      exact ret_i (by rw [aboutR, swN_in (by omega) (by omega)]; rfl)
    · refine Run.tswIn (off := 76) (tgt := 82) d_Rf_about_6 (by decide +kernel) (by decide +kernel) (by decide +kernel) rfl ?_
      refine Run.aload_n d_Rf_about_82 rfl ?_
      refine Run.aload_n d_Rf_about_83 rfl ?_
      refine Run.getf d_Rf_about_84 fl_Rf_25 (by first | rfl | assumption) (by rfl) ?_
      refine Run.V1r d_Rf_about_87 lk_Rf_139 cm_Rf_lookers iv_Rf_lookers rfl (by first | rfl | assumption) (Nat.le_of_ble_eq_true rfl) (Nat.le_of_ble_eq_true rfl) (c_Rf_lookers hc hp hr hg) ?_
      refine Run.iret d_Rf_about_90 rfl rfl ?_
      exact ret_i (by rw [aboutR, swN_in (by omega) (by omega)]; rfl)
    · refine Run.tswIn (off := 85) (tgt := 91) d_Rf_about_6 (by decide +kernel) (by decide +kernel) (by decide +kernel) rfl ?_
      refine Run.aload_n d_Rf_about_91 rfl ?_
      refine Run.aload_n d_Rf_about_92 rfl ?_
      refine Run.getf d_Rf_about_93 fl_Rf_25 (by first | rfl | assumption) (by rfl) ?_
      refine Run.bipush (v := nI 63) d_Rf_about_96 bp_63 ?_
      refine Run.V2r d_Rf_about_98 lk_Rf_143 cm_Rf_together iv_Rf_together rfl (by first | rfl | assumption) (Nat.le_of_ble_eq_true rfl) (Nat.le_of_ble_eq_true rfl) (c_Rf_together hc hp hr hg (by omega)) ?_
      rw [tgsN_63 b2]
      refine Run.iret d_Rf_about_101 rfl rfl ?_
      exact ret_i (by rw [aboutR, swN_in (by omega) (by omega)]; rfl)
    · refine Run.tswIn (off := 96) (tgt := 102) d_Rf_about_6 (by decide +kernel) (by decide +kernel) (by decide +kernel) rfl ?_
      refine Run.aload_n d_Rf_about_102 rfl ?_
      refine Run.getf d_Rf_about_103 fl_Rf_108 (by first | rfl | assumption) (by rfl) ?_
      refine Run.iret d_Rf_about_106 rfl rfl ?_
      exact ret_i (by rw [aboutR, swN_in (by omega) (by omega)]; rfl)
    · refine Run.tswIn (off := 101) (tgt := 107) d_Rf_about_6 (by decide +kernel) (by decide +kernel) (by decide +kernel) rfl ?_
      refine Run.aload_n d_Rf_about_107 rfl ?_
      refine Run.getf d_Rf_about_108 fl_Rf_146 (by first | rfl | assumption) (by rfl) ?_
      refine Run.iret d_Rf_about_111 rfl rfl ?_
      exact ret_i (by rw [aboutR, swN_in (by omega) (by omega)]; rfl)
    · refine Run.tswIn (off := 106) (tgt := 112) d_Rf_about_6 (by decide +kernel) (by decide +kernel) (by decide +kernel) rfl ?_
      refine Run.aload_n d_Rf_about_112 rfl ?_
      refine Run.getf d_Rf_about_113 fl_Rf_75 (by first | rfl | assumption) (by rfl) ?_
      refine Run.iret d_Rf_about_116 rfl rfl ?_
      exact ret_i (by rw [aboutR, swN_in (by omega) (by omega)]; rfl)
end PUB1
