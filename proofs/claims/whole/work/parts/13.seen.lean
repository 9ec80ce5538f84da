/-! ===== coasts and pages, abstract and in cells; what is seen (the class) ===== -/
/-- a loop that counts up to e -/
theorem upto (e : Nat) (P : Nat → Prop) (step : ∀ i, i ≤ e → (i < e → P (i + 1)) → P i) : ∀ i, i ≤ e → P i := by
  have key : ∀ n i, e - i ≤ n → i ≤ e → P i := by
    intro n
    induction n with
    | zero => exact fun i hi he => step i he (fun q => by omega)
    | succ n ih => exact fun i hi he => step i he (fun q => ih (i + 1) (by omega) q)
  exact fun i => key (e - i) i (Nat.le_refl _)
def itN {α : Type} (f : Nat → α → α) (a : α) : Nat → α
  | 0 => a
  | n + 1 => f n (itN f a n)
theorem itN_inv {α : Type} {f : Nat → α → α} {a : α} (I : α → Prop) (h0 : I a) (n : Nat) (hs : ∀ i x, i < n → I x → I (f i x)) : I (itN f a n) := by
  induction n with
  | zero => exact h0
  | succ n ih => exact hs n _ (by omega) (ih (fun i x hi => hs i x (by omega)))
/-- a coast: holders' kinds; parts, angles, kinds of pieces; how many holders, how many pieces -/
abbrev CA : Type := (Nat → Nat) × (Nat → Nat) × (Nat → Nat) × (Nat → Nat) × Nat × Nat
def hkC (c : CA) : Nat → Nat := c.1
def ptC (c : CA) : Nat → Nat := c.2.1
def anC (c : CA) : Nat → Nat := c.2.2.1
def kdC (c : CA) : Nat → Nat := c.2.2.2.1
def nhC (c : CA) : Nat := c.2.2.2.2.1
def npC (c : CA) : Nat := c.2.2.2.2.2
/-- a page: tilts, who holds, light, hour -/
abbrev PG : Type := (Nat → Nat) × (Nat → Nat) × Nat × Nat
def pgT (p : PG) : Nat → Nat := p.1
def pgW (p : PG) : Nat → Nat := p.2.1
def pgL (p : PG) : Nat := p.2.2.1
def pgH (p : PG) : Nat := p.2.2.2
def coOK (c : CA) : Prop := nhC c ≤ 4 ∧ npC c ≤ 6 ∧ (∀ j, j < nhC c → hkC c j < 4) ∧ ∀ i, i < npC c → ptC c i < 5 ∧ anC c i < 8 ∧ kdC c i < 4
def pgOK (c : CA) (p : PG) : Prop := pgL p < 8 ∧ pgH p ≤ 1000 ∧ ∀ i, i < npC c → pgT p i < 8 ∧ pgW p i < nhC c
def angN (p : PG) (i : Nat) : Nat := (pgT p i + pgL p) % 8
def sh (c : CA) (i j a : Nat) : Bool := showN (ptC c i) (anC c i) (kdC c i) (hkC c j) a
/-- n hours later -/
def hourN (p : PG) (n : Nat) : PG := (p.1, p.2.1, (pgL p + n) % 8, pgH p + n)
/-- parts that a holder sees (bits) -/
def seenF (c : CA) (p : PG) (j : Nat) : Nat → Nat → Nat := fun i acc => if pgW p i = j ∧ sh c i j (angN p i) = true then acc ||| 2 ^ ptC c i else acc
def seenN (c : CA) (p : PG) (j : Nat) : Nat := itN (seenF c p j) 0 (npC c)
theorem pgW_hour (p : PG) (n i : Nat) : pgW (hourN p n) i = pgW p i := rfl
theorem angN_hour (p : PG) (n i : Nat) : angN (hourN p n) i = (angN p i + m8 (nI n)) % 8 := by
  rw [m8_nI]
  show (pgT p i + (pgL p + n) % 8) % 8 = ((pgT p i + pgL p) % 8 + n % 8) % 8
  omega
theorem seenN_lt {c : CA} (hc : coOK c) (p : PG) (j : Nat) : seenN c p j < 32 := by
  refine itN_inv (fun x => x < 32) (by decide) _ (fun i x hi hx => ?_)
  unfold seenF
  split
  · have h1 := (hc.2.2.2 i hi).1
    have h2 : 2 ^ ptC c i < 2 ^ 5 := Nat.pow_lt_pow_right (by omega) h1
    exact Nat.or_lt_two_pow (n := 5) hx h2
  · exact hx
/-- holders that see her look (bits) -/
def lookF (c : CA) (p : PG) : Nat → Nat → Nat := fun j acc => if (seenN c p j).testBit 2 = true then acc ||| 2 ^ j else acc
def lookN (c : CA) (p : PG) : Nat := itN (lookF c p) 0 (nhC c)
theorem lookN_lt {c : CA} (hc : coOK c) (p : PG) : lookN c p < 16 := by
  refine itN_inv (fun x => x < 16) (by decide) _ (fun i x hi hx => ?_)
  unfold lookF
  split
  · have h1 := hc.1
    have h2 : 2 ^ i < 2 ^ 4 := Nat.pow_lt_pow_right (by omega) (by omega)
    exact Nat.or_lt_two_pow (n := 4) hx h2
  · exact hx
/-- parts that all see together (bits) -/
def togF (c : CA) (p : PG) : Nat → Nat → Nat := fun j acc => acc ||| seenN c p j
def togN (c : CA) (p : PG) : Nat := itN (togF c p) 0 (nhC c)
/-- cells -/
def iA (n : Nat) (f : Nat → Int32) : AC := .inl (.int, n, .inl f)
def zA (n : Nat) (f : Nat → Int32) : AC := .inl (.boolean, n, .inl f)
/-- rows of numbers that stand for a coast -/
def CoV (c : CA) (fhk fpt fan fkd : Nat → Int32) : Prop := (∀ j, j < nhC c → fhk j = nI (hkC c j)) ∧ ∀ i, i < npC c → fpt i = nI (ptC c i) ∧ fan i = nI (anC c i) ∧ fkd i = nI (kdC c i)
/-- a coast's object at k, its rows behind it -/
def CoAt (h : AH) (k : Nat) (c : CA) : Prop := ∃ (fhk fpt fan fkd fhd : Nat → Int32) (li : Int32), h[k]? = some (.inr (1, [.ref (k + 2), .ref (k + 3), .ref (k + 4), .ref (k + 5), .ref (k + 6), .int li, .int (nI (nhC c)), .int (nI (npC c))])) ∧ h[k + 1]? = some (.inl (.int, 4, .inl fhk)) ∧ h[k + 2]? = some (.inl (.int, 6, .inl fpt)) ∧ h[k + 3]? = some (.inl (.int, 6, .inl fan)) ∧ h[k + 4]? = some (.inl (.int, 6, .inl fkd)) ∧ h[k + 5]? = some (.inl (.int, 6, .inl fhd)) ∧ CoV c fhk fpt fan fkd
def StV (c : CA) (p : PG) (ft fw : Nat → Int32) : Prop := ∀ i, i < npC c → ft i = nI (pgT p i) ∧ fw i = nI (pgW p i)
/-- a state's object at k, its rows behind it -/
def StAt (h : AH) (k : Nat) (c : CA) (p : PG) : Prop := ∃ (ft fw : Nat → Int32) (ke : Int32), h[k]? = some (.inr (4, [.ref (k + 2), .ref (k + 3), .int (nI (pgL p)), .int (nI (pgH p)), .int ke])) ∧ h[k + 1]? = some (.inl (.int, 6, .inl ft)) ∧ h[k + 2]? = some (.inl (.int, 6, .inl fw)) ∧ StV c p ft fw
/-- the object itself at 0: which coast is told, the seed -/
def pmO (kt kd : Nat) (sd : Int64) : AC := .inr (7, [.ref 2, .ref (kt + 1), .ref (kd + 1), .ref 16, .ref 19, .ref 22, .ref 23, .ref 25, .ref 29, .ref 33, .ref 36, .ref 37, .long sd])
/-- what the object reads of itself: the coast told, the page now -/
def PmAt (h : AH) (c : CA) (p : PG) : Prop := ∃ (kt kd : Nat) (sd : Int64), h[0]? = some (.inr (7, [.ref 2, .ref (kt + 1), .ref (kd + 1), .ref 16, .ref 19, .ref 22, .ref 23, .ref 25, .ref 29, .ref 33, .ref 36, .ref 37, .long sd])) ∧ CoAt h kt c ∧ StAt h 15 c p
/-- what is told stands at some place -/
def TlAt (h : AH) (c : CA) : Prop := ∃ (kt kd : Nat) (sd : Int64), h[0]? = some (.inr (7, [.ref 2, .ref (kt + 1), .ref (kd + 1), .ref 16, .ref 19, .ref 22, .ref 23, .ref 25, .ref 29, .ref 33, .ref 36, .ref 37, .long sd])) ∧ CoAt h kt c
/-- within 0 .. n - 1 -/
def inB (x : Int32) (n : Nat) : Bool := decide (0 ≤ x) && decide (x < nI n)
theorem inB_nI {i n : Nat} (hi : i < 2 ^ 31) (hn : n < 2 ^ 31) : inB (nI i) n = decide (i < n) := by
  simp only [inB, nI_pos' hi, nI_ltI hi hn, decide_true, Bool.true_and]
theorem inB_t {x : Int32} {n : Nat} (hn : n < 2 ^ 31) (h : inB x n = true) : ∃ i, i < n ∧ x = nI i := by
  simp only [inB, Bool.and_eq_true, decide_eq_true_eq] at h
  obtain ⟨j, hj, rfl⟩ := nI_of (Int32.not_lt.mpr h.1)
  exact ⟨j, (nI_ltI hj hn).mp h.2, rfl⟩
theorem run_cg {X : Nat × (Nat → Int32)} {d kc ks : Nat} {M : MR} {pc : Nat} {L L2 : List (Option Value)} {S : List Value} {h : AH} {Q : Option Value → AH → Prop} (e : L = L2) (k : Run X d kc ks M pc L2 S h Q) : Run X d kc ks M pc L S h Q := e ▸ k
section SEEN
variable {X : Nat × (Nat → Int32)} {d : Nat} {h : AH} {c : CA} {p : PG} {k : Nat}
theorem c_Co_hasHolder {x : Int32} (hco : CoAt h k c) : Call X (d + 1) 0 0 M_Co_hasHolder [.ref (k + 1), .int x] h (Ret (.int (bI (inB x (nhC c)))) h) := by
  show Run X (d + 1) 0 0 M_Co_hasHolder 0 [some (.ref (k + 1)), some (.int x)] [] h _
  obtain ⟨fhk, fpt, fan, fkd, fhd, li, h0, h1, h2, h3, h4, h5, hv⟩ := hco
  refine Run.iload_n d_Co_hasHolder_0 rfl ?_
  refine Run.aload_n d_Co_hasHolder_1 rfl ?_
  refine Run.getf d_Co_hasHolder_2 fl_Co_27 (by first | rfl | assumption) (by rfl) ?_
  refine Run.S2r d_Co_hasHolder_5 lk_Co_31 cm_PM_isBelow st_PM_isBelow (Nat.le_of_ble_eq_true rfl) (Nat.le_of_ble_eq_true rfl) (c_PM_isBelow) ?_
  refine Run.iret d_Co_hasHolder_8 rfl (by first | exact bI_nar _ | decide +kernel) ?_
  exact ⟨rfl, rfl⟩
theorem c_Co_hasPiece {x : Int32} (hco : CoAt h k c) : Call X (d + 1) 0 0 M_Co_hasPiece [.ref (k + 1), .int x] h (Ret (.int (bI (inB x (npC c)))) h) := by
  show Run X (d + 1) 0 0 M_Co_hasPiece 0 [some (.ref (k + 1)), some (.int x)] [] h _
  obtain ⟨fhk, fpt, fan, fkd, fhd, li, h0, h1, h2, h3, h4, h5, hv⟩ := hco
  refine Run.iload_n d_Co_hasPiece_0 rfl ?_
  refine Run.aload_n d_Co_hasPiece_1 rfl ?_
  refine Run.getf d_Co_hasPiece_2 fl_Co_35 (by first | rfl | assumption) (by rfl) ?_
  refine Run.S2r d_Co_hasPiece_5 lk_Co_31 cm_PM_isBelow st_PM_isBelow (Nat.le_of_ble_eq_true rfl) (Nat.le_of_ble_eq_true rfl) (c_PM_isBelow) ?_
  refine Run.iret d_Co_hasPiece_8 rfl (by first | exact bI_nar _ | decide +kernel) ?_
  exact ⟨rfl, rfl⟩
theorem c_Co_showsAt {i j : Nat} {x : Int32} (hc : coOK c) (hco : CoAt h k c) (hi : i < 100) (hj : j < 100) : Call X (d + 3) 0 0 M_Co_showsAt [.ref (k + 1), .int (nI i), .int (nI j), .int x] h (Ret (.int (bI (decide (i < npC c) && (decide (j < nhC c) && sh c i j (m8 x))))) h) := by
  show Run X (d + 3) 0 0 M_Co_showsAt 0 [some (.ref (k + 1)), some (.int (nI i)), some (.int (nI j)), some (.int x)] [] h _
  have hco' := hco
  obtain ⟨fhk, fpt, fan, fkd, fhd, li, h0, h1, h2, h3, h4, h5, hv1, hv2⟩ := hco
  obtain ⟨b1, b2, b3, b4⟩ := hc
  refine Run.aload_n d_Co_showsAt_0 rfl ?_
  refine Run.iload_n d_Co_showsAt_1 rfl ?_
  refine Run.V1r d_Co_showsAt_2 lk_Co_38 cm_Co_hasPiece iv_Co_hasPiece rfl (by first | rfl | assumption) (Nat.le_of_ble_eq_true rfl) (Nat.le_of_ble_eq_true rfl) (c_Co_hasPiece hco') ?_
  first | refine Run.if_eq_b d_Co_showsAt_5 (fun c5 => ?_) (fun c5 => ?_) | refine Run.if_eq_n d_Co_showsAt_5 (by omega) (fun c5 => ?_) (fun c5 => ?_) | refine Run.if_eq d_Co_showsAt_5 (fun c5 => ?_) (fun c5 => ?_)
  · rw [inB_nI (by omega) (by omega)] at c5
    refine Run.iconst (v := nI 0) d_Co_showsAt_51 ic_0 ?_
    refine Run.iret d_Co_showsAt_52 rfl (by first | exact bI_nar _ | decide +kernel) ?_
    first | exact ret_f (by rw [c5, Bool.false_and]) | exact ret_f (by rw [c13, Bool.false_and, Bool.and_false]) | exact ret_f (by simp [sh, c44]) | exact ret_t (by simp [sh, c5, c13, c44])
  · rw [inB_nI (by omega) (by omega), decide_eq_true_eq] at c5
    refine Run.aload_n d_Co_showsAt_8 rfl ?_
    refine Run.iload_n d_Co_showsAt_9 rfl ?_
    refine Run.V1r d_Co_showsAt_10 lk_Co_42 cm_Co_hasHolder iv_Co_hasHolder rfl (by first | rfl | assumption) (Nat.le_of_ble_eq_true rfl) (Nat.le_of_ble_eq_true rfl) (c_Co_hasHolder hco') ?_
    first | refine Run.if_eq_b d_Co_showsAt_13 (fun c13 => ?_) (fun c13 => ?_) | refine Run.if_eq_n d_Co_showsAt_13 (by omega) (fun c13 => ?_) (fun c13 => ?_) | refine Run.if_eq d_Co_showsAt_13 (fun c13 => ?_) (fun c13 => ?_)
    · rw [inB_nI (by omega) (by omega)] at c13
      refine Run.iconst (v := nI 0) d_Co_showsAt_51 ic_0 ?_
      refine Run.iret d_Co_showsAt_52 rfl (by first | exact bI_nar _ | decide +kernel) ?_
      first | exact ret_f (by rw [c5, Bool.false_and]) | exact ret_f (by rw [c13, Bool.false_and, Bool.and_false]) | exact ret_f (by simp [sh, c44]) | exact ret_t (by simp [sh, c5, c13, c44])
    · rw [inB_nI (by omega) (by omega), decide_eq_true_eq] at c13
      refine Run.aload_n d_Co_showsAt_16 rfl ?_
      refine Run.getf d_Co_showsAt_17 fl_Co_15 (by first | rfl | assumption) (by rfl) ?_
      refine Run.iload_n d_Co_showsAt_20 rfl ?_
      refine Run.iald_n d_Co_showsAt_21 (by first | rfl | assumption) (by omega) (by omega) ?_
      rw [(hv2 i c5).1]
      refine Run.aload_n d_Co_showsAt_22 rfl ?_
      refine Run.getf d_Co_showsAt_23 fl_Co_18 (by first | rfl | assumption) (by rfl) ?_
      refine Run.iload_n d_Co_showsAt_26 rfl ?_
      refine Run.iald_n d_Co_showsAt_27 (by first | rfl | assumption) (by omega) (by omega) ?_
      rw [(hv2 i c5).2.1]
      refine Run.aload_n d_Co_showsAt_28 rfl ?_
      refine Run.getf d_Co_showsAt_29 fl_Co_21 (by first | rfl | assumption) (by rfl) ?_
      refine Run.iload_n d_Co_showsAt_32 rfl ?_
      refine Run.iald_n d_Co_showsAt_33 (by first | rfl | assumption) (by omega) (by omega) ?_
      rw [(hv2 i c5).2.2]
      refine Run.aload_n d_Co_showsAt_34 rfl ?_
      refine Run.getf d_Co_showsAt_35 fl_Co_9 (by first | rfl | assumption) (by rfl) ?_
      refine Run.iload_n d_Co_showsAt_38 rfl ?_
      refine Run.iald_n d_Co_showsAt_39 (by first | rfl | assumption) (by omega) (by omega) ?_
      rw [hv1 j c13]
      refine Run.iload_n d_Co_showsAt_40 rfl ?_
      refine Run.S5r d_Co_showsAt_41 lk_Co_45 cm_PM_isShown st_PM_isShown (Nat.le_of_ble_eq_true rfl) (Nat.le_of_ble_eq_true rfl) (c_PM_isShown (b4 i c5).1 (b4 i c5).2.1 (b4 i c5).2.2 (b3 j c13)) ?_
      first | refine Run.if_eq_b d_Co_showsAt_44 (fun c44 => ?_) (fun c44 => ?_) | refine Run.if_eq_n d_Co_showsAt_44 (by omega) (fun c44 => ?_) (fun c44 => ?_) | refine Run.if_eq d_Co_showsAt_44 (fun c44 => ?_) (fun c44 => ?_)
      · refine Run.iconst (v := nI 0) d_Co_showsAt_51 ic_0 ?_
        refine Run.iret d_Co_showsAt_52 rfl (by first | exact bI_nar _ | decide +kernel) ?_
        first | exact ret_f (by rw [c5, Bool.false_and]) | exact ret_f (by rw [c13, Bool.false_and, Bool.and_false]) | exact ret_f (by simp [sh, c44]) | exact ret_t (by simp [sh, c5, c13, c44])
      · refine Run.iconst (v := nI 1) d_Co_showsAt_47 ic_1 ?_
        refine Run.goto d_Co_showsAt_48 ?_
        refine Run.iret d_Co_showsAt_52 rfl (by first | exact bI_nar _ | decide +kernel) ?_
        first | exact ret_f (by rw [c5, Bool.false_and]) | exact ret_f (by rw [c13, Bool.false_and, Bool.and_false]) | exact ret_f (by simp [sh, c44]) | exact ret_t (by simp [sh, c5, c13, c44])
theorem c_St_angleOf {i : Nat} (hp : pgOK c p) (hst : StAt h k c p) (hi : i < npC c) (hn : npC c ≤ 6) : Call X (d + 1) 0 0 M_St_angleOf [.ref (k + 1), .int (nI i)] h (Ret (.int (nI (angN p i))) h) := by
  show Run X (d + 1) 0 0 M_St_angleOf 0 [some (.ref (k + 1)), some (.int (nI i))] [] h _
  obtain ⟨ft, fw, ke, h0, h1, h2, hv⟩ := hst
  refine Run.iload_n d_St_angleOf_0 rfl ?_
  refine Run.bipush (v := nI 6) d_St_angleOf_1 bp_6 ?_
  refine Run.S2r d_St_angleOf_3 lk_St_35 cm_PM_isBelow st_PM_isBelow (Nat.le_of_ble_eq_true rfl) (Nat.le_of_ble_eq_true rfl) (c_PM_isBelow) ?_
  first | refine Run.if_eq_b d_St_angleOf_6 (fun c6 => ?_) (fun c6 => ?_) | refine Run.if_eq_n d_St_angleOf_6 (by omega) (fun c6 => ?_) (fun c6 => ?_) | refine Run.if_eq d_St_angleOf_6 (fun c6 => ?_) (fun c6 => ?_)
  · simp [nI_pos' (show i < 2 ^ 31 by omega), nI_ltI (show i < 2 ^ 31 by omega) (show 6 < 2 ^ 31 by omega), show i < 6 by omega] at c6
  · refine Run.aload_n d_St_angleOf_9 rfl ?_
    refine Run.getf d_St_angleOf_10 fl_St_9 (by first | rfl | assumption) (by rfl) ?_
    refine Run.iload_n d_St_angleOf_13 rfl ?_
    refine Run.iald_n d_St_angleOf_14 (by first | rfl | assumption) (by omega) (by omega) ?_
    rw [(hv i hi).1]
    refine Run.aload_n d_St_angleOf_15 rfl ?_
    refine Run.getf d_St_angleOf_16 fl_St_25 (by first | rfl | assumption) (by rfl) ?_
    first | refine Run.iadd_n d_St_angleOf_19 ?_ | refine Run.iadd d_St_angleOf_19 ?_
    refine Run.S1r d_St_angleOf_20 lk_St_39 cm_PM_byEight st_PM_byEight (Nat.le_of_ble_eq_true rfl) (Nat.le_of_ble_eq_true rfl) (c_PM_byEight) ?_
    refine Run.goto d_St_angleOf_23 ?_
    refine Run.iret d_St_angleOf_27 rfl rfl ?_
    exact ret_n (by rw [m8_nI]; rfl)
theorem c_PM_showsAfter {i j : Nat} {x : Int32} (hc : coOK c) (hp : pgOK c p) (ht : TlAt h c) (hst : StAt h k c p) (hi : i < npC c) (hj : j < 100) : Call X (d + 4) 0 0 M_PM_showsAfter [.ref 1, .ref (k + 1), .int (nI i), .int (nI j), .int x] h (Ret (.int (bI (decide (j < nhC c) && sh c i j ((angN p i + m8 x) % 8)))) h) := by
  show Run X (d + 4) 0 0 M_PM_showsAfter 0 [some (.ref 1), some (.ref (k + 1)), some (.int (nI i)), some (.int (nI j)), some (.int x)] [] h _
  obtain ⟨kt, kd, sd, h0, hco⟩ := ht
  have hco' := hco
  have hst' := hst
  obtain ⟨fhk, fpt, fan, fkd, fhd, li, g0, -⟩ := hco'
  obtain ⟨ft, fw, ke, g1, -⟩ := hst'
  have b2 := hc.2.1
  refine Run.aload_n d_PM_showsAfter_0 rfl ?_
  refine Run.getf d_PM_showsAfter_1 fl_PM_19 (by first | rfl | assumption) (by rfl) ?_
  refine Run.iload_n d_PM_showsAfter_4 rfl ?_
  refine Run.iload_n d_PM_showsAfter_5 rfl ?_
  refine Run.aload_n d_PM_showsAfter_6 rfl ?_
  refine Run.iload_n d_PM_showsAfter_7 rfl ?_
  refine Run.V1r d_PM_showsAfter_8 lk_PM_151 cm_St_angleOf iv_St_angleOf rfl (by first | rfl | assumption) (Nat.le_of_ble_eq_true rfl) (Nat.le_of_ble_eq_true rfl) (c_St_angleOf hp hst hi b2) ?_
  refine Run.iload d_PM_showsAfter_11 rfl ?_
  first | refine Run.iadd_n d_PM_showsAfter_13 ?_ | refine Run.iadd d_PM_showsAfter_13 ?_
  refine Run.V3r d_PM_showsAfter_14 lk_PM_162 cm_Co_showsAt iv_Co_showsAt rfl (by first | rfl | assumption) (Nat.le_of_ble_eq_true rfl) (Nat.le_of_ble_eq_true rfl) (c_Co_showsAt hc hco (by omega) hj) ?_
  refine Run.iret d_PM_showsAfter_17 rfl (by first | exact bI_nar _ | decide +kernel) ?_
  exact ret_b (by rw [m8_add, m8_nI, decide_eq_true hi, Bool.true_and, angN, Nat.mod_mod])
theorem c_PM_partsSeen {j n : Nat} (hc : coOK c) (hp : pgOK c p) (ht : TlAt h c) (hst : StAt h k c p) (hj : j < nhC c) (hn : n < 1000) : Call X (d + 5) 0 0 M_PM_partsSeen [.ref 1, .ref (k + 1), .int (nI j), .int (nI n)] h (Ret (.int (nI (seenN c (hourN p n) j))) h) := by
  show Run X (d + 5) 0 0 M_PM_partsSeen 0 [some (.ref 1), some (.ref (k + 1)), some (.int (nI j)), some (.int (nI n)), none, none] [] h _
  have ht' := ht
  obtain ⟨kt, kd, sd, h0, hco⟩ := ht'
  obtain ⟨fhk, fpt, fan, fkd, fhd, li, g0, g1, g2, g3, g4, g5, hv1, hv2⟩ := hco
  have hst' := hst
  obtain ⟨ft, fw, ke, s0, s1, s2, hw⟩ := hst'
  obtain ⟨b1, b2, b3, b4⟩ := id hc
  refine Run.iconst (v := nI 0) d_PM_partsSeen_0 ic_0 ?_
  refine Run.istore d_PM_partsSeen_1 rfl rfl ?_
  show Run _ _ _ _ _ _ [_, _, _, _, _, _] _ _ _
  refine Run.iconst (v := nI 0) d_PM_partsSeen_3 ic_0 ?_
  refine Run.istore d_PM_partsSeen_4 rfl rfl ?_
  show Run _ _ _ _ _ _ [_, _, _, _, _, _] _ _ _
  refine upto (npC c) (fun i => Run X (d + 5) 0 0 M_PM_partsSeen 6 [some (.ref 1), some (.ref (k + 1)), some (.int (nI j)), some (.int (nI n)), some (.int (nI (itN (seenF c (hourN p n) j) 0 i))), some (.int (nI i))] [] h _) ?_ 0 (Nat.zero_le _)
  intro i hi ih
  have hpw : i < npC c → pgW p i < nhC c := fun q => (hp.2.2 i q).2
  refine Run.iload d_PM_partsSeen_6 rfl ?_
  refine Run.aload_n d_PM_partsSeen_8 rfl ?_
  refine Run.getf d_PM_partsSeen_9 fl_PM_19 (by first | rfl | assumption) (by rfl) ?_
  refine Run.getf d_PM_partsSeen_12 fl_PM_101 (by first | rfl | assumption) (by rfl) ?_
  first | refine Run.icmp_ge_n d_PM_partsSeen_15 (by omega) (by omega) (fun c15 => ?_) (fun c15 => ?_) | refine Run.icmp_ge d_PM_partsSeen_15 (fun c15 => ?_) (fun c15 => ?_)
  · refine Run.iload d_PM_partsSeen_64 rfl ?_
    refine Run.iret d_PM_partsSeen_66 rfl rfl ?_
    exact ret_n (by rw [show i = npC c by omega]; rfl)
  · refine Run.aload_n d_PM_partsSeen_18 rfl ?_
    refine Run.getf d_PM_partsSeen_19 fl_PM_148 (by first | rfl | assumption) (by rfl) ?_
    refine Run.iload d_PM_partsSeen_22 rfl ?_
    refine Run.iald_n d_PM_partsSeen_24 (by first | rfl | assumption) (by omega) (by omega) ?_
    rw [(hw i c15).2]
    refine Run.iload_n d_PM_partsSeen_25 rfl ?_
    have w1 := hpw c15
    first | refine Run.icmp_ne_n d_PM_partsSeen_26 (by omega) (by omega) (fun c26 => ?_) (fun c26 => ?_) | refine Run.icmp_ne d_PM_partsSeen_26 (fun c26 => ?_) (fun c26 => ?_)
    · first | refine Run.iinc_n d_PM_partsSeen_58 ic_1 rfl rfl ?_ | refine Run.iinc d_PM_partsSeen_58 rfl rfl rfl ?_
      show Run _ _ _ _ _ _ [_, _, _, _, _, _] _ _ _
      refine Run.goto d_PM_partsSeen_61 ?_
      first
      | (refine run_cg ?_ (ih c15); simp [itN, seenF, pgW_hour, angN_hour, c26]; done)
      | (refine run_cg ?_ (ih c15); simp [hj] at c38; simp [itN, seenF, pgW_hour, angN_hour, c26, c38]; done)
    · refine Run.aload_n d_PM_partsSeen_29 rfl ?_
      refine Run.aload_n d_PM_partsSeen_30 rfl ?_
      refine Run.iload d_PM_partsSeen_31 rfl ?_
      refine Run.iload_n d_PM_partsSeen_33 rfl ?_
      refine Run.iload_n d_PM_partsSeen_34 rfl ?_
      refine Run.V4r d_PM_partsSeen_35 lk_PM_154 cm_PM_showsAfter iv_PM_showsAfter rfl (by first | rfl | assumption) (Nat.le_of_ble_eq_true rfl) (Nat.le_of_ble_eq_true rfl) (c_PM_showsAfter hc hp ht hst c15 (by omega)) ?_
      first | refine Run.if_eq_b d_PM_partsSeen_38 (fun c38 => ?_) (fun c38 => ?_) | refine Run.if_eq_n d_PM_partsSeen_38 (by omega) (fun c38 => ?_) (fun c38 => ?_) | refine Run.if_eq d_PM_partsSeen_38 (fun c38 => ?_) (fun c38 => ?_)
      · first | refine Run.iinc_n d_PM_partsSeen_58 ic_1 rfl rfl ?_ | refine Run.iinc d_PM_partsSeen_58 rfl rfl rfl ?_
        show Run _ _ _ _ _ _ [_, _, _, _, _, _] _ _ _
        refine Run.goto d_PM_partsSeen_61 ?_
        first
        | (refine run_cg ?_ (ih c15); simp [itN, seenF, pgW_hour, angN_hour, c26]; done)
        | (refine run_cg ?_ (ih c15); simp [hj] at c38; simp [itN, seenF, pgW_hour, angN_hour, c26, c38]; done)
      · refine Run.iload d_PM_partsSeen_41 rfl ?_
        refine Run.iconst (v := nI 1) d_PM_partsSeen_43 ic_1 ?_
        refine Run.aload_n d_PM_partsSeen_44 rfl ?_
        refine Run.getf d_PM_partsSeen_45 fl_PM_19 (by first | rfl | assumption) (by rfl) ?_
        refine Run.getf d_PM_partsSeen_48 fl_PM_136 (by first | rfl | assumption) (by rfl) ?_
        refine Run.iload d_PM_partsSeen_51 rfl ?_
        refine Run.iald_n d_PM_partsSeen_53 (by first | rfl | assumption) (by omega) (by omega) ?_
        rw [(hv2 i c15).1]
        have w3 : 2 ^ ptC c i < 2 ^ 5 := Nat.pow_lt_pow_right (by omega) (b4 i c15).1
        have w2 := (b4 i c15).1
        first | refine Run.ishl_n d_PM_partsSeen_54 (by omega) (by omega) ?_ | refine Run.ishl d_PM_partsSeen_54 ?_
        first | refine Run.ior_n d_PM_partsSeen_55 ?_ | refine Run.ior d_PM_partsSeen_55 ?_
        refine Run.istore d_PM_partsSeen_56 rfl rfl ?_
        show Run _ _ _ _ _ _ [_, _, _, _, _, _] _ _ _
        first | refine Run.iinc_n d_PM_partsSeen_58 ic_1 rfl rfl ?_ | refine Run.iinc d_PM_partsSeen_58 rfl rfl rfl ?_
        show Run _ _ _ _ _ _ [_, _, _, _, _, _] _ _ _
        refine Run.goto d_PM_partsSeen_61 ?_
        first
        | (refine run_cg ?_ (ih c15); simp [itN, seenF, pgW_hour, angN_hour, c26]; done)
        | (refine run_cg ?_ (ih c15); simp [hj] at c38; simp [itN, seenF, pgW_hour, angN_hour, c26, c38]; done)
theorem hourN_0 {p : PG} (hp : pgOK c p) : hourN p 0 = p := by
  obtain ⟨t, w, l, hh⟩ := p
  have : l < 8 := hp.1
  simp [hourN, pgL, pgH]
  omega
theorem c_PM_whoSeesHerLook (hc : coOK c) (hp : pgOK c p) (ht : TlAt h c) (hst : StAt h k c p) : Call X (d + 6) 0 0 M_PM_whoSeesHerLook [.ref 1, .ref (k + 1)] h (Ret (.int (nI (lookN c p))) h) := by
  show Run X (d + 6) 0 0 M_PM_whoSeesHerLook 0 [some (.ref 1), some (.ref (k + 1)), none, none] [] h _
  have ht' := ht
  obtain ⟨kt, kd, sd, h0, hco⟩ := ht'
  obtain ⟨fhk, fpt, fan, fkd, fhd, li, g0, g1, g2, g3, g4, g5, hv1, hv2⟩ := hco
  obtain ⟨b1, b2, b3, b4⟩ := id hc
  refine Run.iconst (v := nI 0) d_PM_whoSeesHerLook_0 ic_0 ?_
  refine Run.istore_n d_PM_whoSeesHerLook_1 rfl rfl ?_
  show Run _ _ _ _ _ _ [_, _, _, _] _ _ _
  refine Run.iconst (v := nI 0) d_PM_whoSeesHerLook_2 ic_0 ?_
  refine Run.istore_n d_PM_whoSeesHerLook_3 rfl rfl ?_
  show Run _ _ _ _ _ _ [_, _, _, _] _ _ _
  refine upto (nhC c) (fun i => Run X (d + 6) 0 0 M_PM_whoSeesHerLook 4 [some (.ref 1), some (.ref (k + 1)), some (.int (nI (itN (lookF c p) 0 i))), some (.int (nI i))] [] h _) ?_ 0 (Nat.zero_le _)
  intro i hi ih
  have w1 := seenN_lt hc p i
  refine Run.iload_n d_PM_whoSeesHerLook_4 rfl ?_
  refine Run.aload_n d_PM_whoSeesHerLook_5 rfl ?_
  refine Run.getf d_PM_whoSeesHerLook_6 fl_PM_19 (by first | rfl | assumption) (by rfl) ?_
  refine Run.getf d_PM_whoSeesHerLook_9 fl_PM_98 (by first | rfl | assumption) (by rfl) ?_
  first | refine Run.icmp_ge_n d_PM_whoSeesHerLook_12 (by omega) (by omega) (fun c12 => ?_) (fun c12 => ?_) | refine Run.icmp_ge d_PM_whoSeesHerLook_12 (fun c12 => ?_) (fun c12 => ?_)
  · refine Run.iload_n d_PM_whoSeesHerLook_41 rfl ?_
    refine Run.iret d_PM_whoSeesHerLook_42 rfl rfl ?_
    exact ret_n (by rw [show i = nhC c by omega]; rfl)
  · refine Run.aload_n d_PM_whoSeesHerLook_15 rfl ?_
    refine Run.aload_n d_PM_whoSeesHerLook_16 rfl ?_
    refine Run.iload_n d_PM_whoSeesHerLook_17 rfl ?_
    refine Run.iconst (v := nI 0) d_PM_whoSeesHerLook_18 ic_0 ?_
    refine Run.V3r d_PM_whoSeesHerLook_19 lk_PM_129 cm_PM_partsSeen iv_PM_partsSeen rfl (by first | rfl | assumption) (Nat.le_of_ble_eq_true rfl) (Nat.le_of_ble_eq_true rfl) (c_PM_partsSeen hc hp ht hst c12 (by omega)) ?_
    rw [hourN_0 hp]
    refine Run.iconst (v := nI 2) d_PM_whoSeesHerLook_22 ic_2 ?_
    refine Run.S2r d_PM_whoSeesHerLook_23 lk_PM_193 cm_PM_hasBit st_PM_hasBit (Nat.le_of_ble_eq_true rfl) (Nat.le_of_ble_eq_true rfl) (c_PM_hasBit (by omega) (by omega)) ?_
    first | refine Run.if_eq_b d_PM_whoSeesHerLook_26 (fun c26 => ?_) (fun c26 => ?_) | refine Run.if_eq_n d_PM_whoSeesHerLook_26 (by omega) (fun c26 => ?_) (fun c26 => ?_) | refine Run.if_eq d_PM_whoSeesHerLook_26 (fun c26 => ?_) (fun c26 => ?_)
    · first | refine Run.iinc_n d_PM_whoSeesHerLook_35 ic_1 rfl rfl ?_ | refine Run.iinc d_PM_whoSeesHerLook_35 rfl rfl rfl ?_
      show Run _ _ _ _ _ _ [_, _, _, _] _ _ _
      refine Run.goto d_PM_whoSeesHerLook_38 ?_
      exact run_cg (by simp [itN, lookF, c26]) (ih c12)
    · refine Run.iload_n d_PM_whoSeesHerLook_29 rfl ?_
      refine Run.iconst (v := nI 1) d_PM_whoSeesHerLook_30 ic_1 ?_
      refine Run.iload_n d_PM_whoSeesHerLook_31 rfl ?_
      have w3 : 2 ^ i < 2 ^ 4 := Nat.pow_lt_pow_right (by omega) (by omega)
      first | refine Run.ishl_n d_PM_whoSeesHerLook_32 (by omega) (by omega) ?_ | refine Run.ishl d_PM_whoSeesHerLook_32 ?_
      first | refine Run.ior_n d_PM_whoSeesHerLook_33 ?_ | refine Run.ior d_PM_whoSeesHerLook_33 ?_
      refine Run.istore_n d_PM_whoSeesHerLook_34 rfl rfl ?_
      show Run _ _ _ _ _ _ [_, _, _, _] _ _ _
      first | refine Run.iinc_n d_PM_whoSeesHerLook_35 ic_1 rfl rfl ?_ | refine Run.iinc d_PM_whoSeesHerLook_35 rfl rfl rfl ?_
      show Run _ _ _ _ _ _ [_, _, _, _] _ _ _
      refine Run.goto d_PM_whoSeesHerLook_38 ?_
      exact run_cg (by simp [itN, lookF, c26]) (ih c12)
theorem c_PM_partsSeenTogether (hc : coOK c) (hp : pgOK c p) (ht : TlAt h c) (hst : StAt h 15 c p) : Call X (d + 6) 0 0 M_PM_partsSeenTogether [.ref 1] h (Ret (.int (nI (togN c p))) h) := by
  show Run X (d + 6) 0 0 M_PM_partsSeenTogether 0 [some (.ref 1), none, none] [] h _
  have ht' := ht
  obtain ⟨kt, kd, sd, h0, hco⟩ := ht'
  obtain ⟨fhk, fpt, fan, fkd, fhd, li, g0, g1, g2, g3, g4, g5, hv1, hv2⟩ := hco
  obtain ⟨b1, b2, b3, b4⟩ := id hc
  refine Run.iconst (v := nI 0) d_PM_partsSeenTogether_0 ic_0 ?_
  refine Run.istore_n d_PM_partsSeenTogether_1 rfl rfl ?_
  show Run _ _ _ _ _ _ [_, _, _] _ _ _
  refine Run.iconst (v := nI 0) d_PM_partsSeenTogether_2 ic_0 ?_
  refine Run.istore_n d_PM_partsSeenTogether_3 rfl rfl ?_
  show Run _ _ _ _ _ _ [_, _, _] _ _ _
  refine upto (nhC c) (fun i => Run X (d + 6) 0 0 M_PM_partsSeenTogether 4 [some (.ref 1), some (.int (nI (itN (togF c p) 0 i))), some (.int (nI i))] [] h _) ?_ 0 (Nat.zero_le _)
  intro i hi ih
  refine Run.iload_n d_PM_partsSeenTogether_4 rfl ?_
  refine Run.aload_n d_PM_partsSeenTogether_5 rfl ?_
  refine Run.getf d_PM_partsSeenTogether_6 fl_PM_19 (by first | rfl | assumption) (by rfl) ?_
  refine Run.getf d_PM_partsSeenTogether_9 fl_PM_98 (by first | rfl | assumption) (by rfl) ?_
  first | refine Run.icmp_ge_n d_PM_partsSeenTogether_12 (by omega) (by omega) (fun c12 => ?_) (fun c12 => ?_) | refine Run.icmp_ge d_PM_partsSeenTogether_12 (fun c12 => ?_) (fun c12 => ?_)
  · refine Run.iload_n d_PM_partsSeenTogether_34 rfl ?_
    refine Run.iret d_PM_partsSeenTogether_35 rfl rfl ?_
    exact ret_n (by rw [show i = nhC c by omega]; rfl)
  · refine Run.iload_n d_PM_partsSeenTogether_15 rfl ?_
    refine Run.aload_n d_PM_partsSeenTogether_16 rfl ?_
    refine Run.aload_n d_PM_partsSeenTogether_17 rfl ?_
    refine Run.getf d_PM_partsSeenTogether_18 fl_PM_29 (by first | rfl | assumption) (by rfl) ?_
    refine Run.iload_n d_PM_partsSeenTogether_21 rfl ?_
    refine Run.iconst (v := nI 0) d_PM_partsSeenTogether_22 ic_0 ?_
    refine Run.V3r d_PM_partsSeenTogether_23 lk_PM_129 cm_PM_partsSeen iv_PM_partsSeen rfl (by first | rfl | assumption) (Nat.le_of_ble_eq_true rfl) (Nat.le_of_ble_eq_true rfl) (c_PM_partsSeen hc hp ht hst c12 (by omega)) ?_
    rw [hourN_0 hp]
    first | refine Run.ior_n d_PM_partsSeenTogether_26 ?_ | refine Run.ior d_PM_partsSeenTogether_26 ?_
    refine Run.istore_n d_PM_partsSeenTogether_27 rfl rfl ?_
    show Run _ _ _ _ _ _ [_, _, _] _ _ _
    first | refine Run.iinc_n d_PM_partsSeenTogether_28 ic_1 rfl rfl ?_ | refine Run.iinc d_PM_partsSeenTogether_28 rfl rfl rfl ?_
    show Run _ _ _ _ _ _ [_, _, _] _ _ _
    refine Run.goto d_PM_partsSeenTogether_31 ?_
    exact run_cg (by simp [itN, togF]) (ih c12)
end SEEN
