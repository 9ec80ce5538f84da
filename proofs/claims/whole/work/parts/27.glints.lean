/-! ===== glints ===== -/
/-- within a .. b -/
def inC (x : Int32) (a b : Nat) : Bool := decide (nI a ≤ x) && decide (x ≤ nI b)
theorem in_C {x : Int32} {A B : Int64} {a b : Nat} (ha : a < 2 ^ 31) (hb : b < 2 ^ 31) (hA : A.toInt = (a : Int)) (hB : B.toInt = (b : Int)) : (decide (A ≤ x.toInt64) && decide (x.toInt64 ≤ B)) = inC x a b := by
  have e1 : (A ≤ x.toInt64) ↔ nI a ≤ x := by
    rw [Int64.le_iff_toInt_le, Int32.le_iff_toInt_le, Int32.toInt_toInt64, hA, nI_toInt ha]
  have e2 : x.toInt64 ≤ B ↔ x ≤ nI b := by
    rw [Int64.le_iff_toInt_le, Int32.le_iff_toInt_le, Int32.toInt_toInt64, hB, nI_toInt hb]
  simp only [inC, e1, e2]
theorem inC_t {x : Int32} {a b : Nat} (ha : a < 2 ^ 31) (hb : b < 2 ^ 31) (h : inC x a b = true) : ∃ k, a ≤ k ∧ k ≤ b ∧ x = nI k := by
  simp only [inC, Bool.and_eq_true, decide_eq_true_eq] at h
  have h1 := Int32.le_iff_toInt_le.mp h.1
  have h2 := Int32.le_iff_toInt_le.mp h.2
  rw [nI_toInt ha] at h1
  rw [nI_toInt hb] at h2
  obtain ⟨k, hk, rfl⟩ := nI_of (x := x) (fun q => by
    have := Int32.lt_iff_toInt_lt.mp q
    rw [Int32.toInt_zero] at this
    omega)
  rw [nI_toInt hk] at h1 h2
  exact ⟨k, by omega, by omega, rfl⟩
theorem inC_lo {x : Int32} {a b : Nat} (h : x < nI a) : inC x a b = false := by
  rw [inC, decide_eq_false (Int32.not_le.mpr h), Bool.false_and]
theorem inC_hi {x : Int32} {a b : Nat} (h : nI b < x) : inC x a b = false := by
  rw [inC, decide_eq_false (Int32.not_le.mpr h), Bool.and_false]
theorem inC_in {x : Int32} {a b : Nat} (h1 : ¬ x < nI a) (h2 : ¬ nI b < x) : inC x a b = true := by
  rw [inC, decide_eq_true (Int32.not_lt.mp h1), decide_eq_true (Int32.not_lt.mp h2)]
  rfl
/-- how often, of 10 to the h, the light goes on by k -/
def chN (x : Nat) : Nat → Nat → Nat
  | 0 => fun k => if k = 0 then 1 else 0
  | h + 1 => fun k => match k with
    | 0 => chN x h 0 * (10 - x)
    | k + 1 => chN x h (k + 1) * (10 - x) + chN x h k * x
theorem chN_hi (x : Nat) : ∀ h k, h < k → chN x h k = 0 := by
  intro h
  induction h with
  | zero => intro k hk; show (if k = 0 then 1 else 0) = 0; rw [if_neg (by omega)]
  | succ h ih =>
    intro k hk
    cases k with
    | zero => omega
    | succ k =>
      show chN x h (k + 1) * (10 - x) + chN x h k * x = 0
      rw [ih (k + 1) (by omega), ih k (by omega), Nat.zero_mul, Nat.zero_mul]
def glF (x n l : Nat) : Nat → Nat → Nat := fun k acc => if l ≤ k then acc + chN x n k else acc
def glN (x n l : Nat) : Nat := itN (glF x n l) 0 (n + 1)
theorem gl_lo (x n l : Nat) : ∀ e, e ≤ l → itN (glF x n l) 0 e = 0 := by
  intro e
  induction e with
  | zero => intro _; rfl
  | succ e ih =>
    intro he
    show glF x n l e _ = 0
    rw [ih (by omega), glF, if_neg (by omega)]
def gsF (x n l : Nat) : Nat → Nat → Nat := fun s acc => acc + (if l ≤ manyN s then x ^ manyN s * (10 - x) ^ (n - manyN s) else 0)
def glC (n : Nat) : Bool := (List.range 11).all fun x => (List.range 9).all fun l => decide (itN (gsF x n l) 0 (2 ^ n) = glN x n l) && decide (glN x n l ≤ 1000000)
theorem glC_ok : (List.range 7).all glC = true := by decide +kernel
theorem gl_eq {n x l : Nat} (hn : n ≤ 6) (hx : x ≤ 10) (hl : l ≤ 8) : itN (gsF x n l) 0 (2 ^ n) = glN x n l ∧ glN x n l ≤ 1000000 := by
  have h1 := List.all_eq_true.mp glC_ok n (List.mem_range.mpr (by omega))
  have h2 := List.all_eq_true.mp h1 x (List.mem_range.mpr (by omega))
  have h3 := List.all_eq_true.mp h2 l (List.mem_range.mpr (by omega))
  rw [Bool.and_eq_true, decide_eq_true_eq, decide_eq_true_eq] at h3
  exact h3
/-- the first hour in which it is seen; 8: never -/
def wh8 (o : Option Nat) : Nat := match o with
  | none => 8
  | some w => w
theorem fst_ss (P : Nat → Bool) (n : Nat) : (fstN P (n + 1)).isSome = ((fstN P n).isSome || P n) := by
  simp only [fstN]
  cases fstN P n with
  | some a => rfl
  | none => cases P n <;> rfl
theorem fst_w {P : Nat → Bool} {m : Nat} (hm : m < 8) : (fstN P (m + 1)).isSome = decide (wh8 (fstN P 8) ≤ m) := by
  cases h8 : fstN P 8 with
  | none =>
    show _ = decide (8 ≤ m)
    rw [decide_eq_false (by omega)]
    cases hk : fstN P (m + 1) with
    | none => rfl
    | some k =>
      have h1 := fstN_lt hk
      rw [fstN_s h1.2.2 h1.2.1 8 (by omega)] at h8
      cases h8
  | some w =>
    show _ = decide (w ≤ m)
    have h1 := fstN_lt h8
    by_cases hw : w ≤ m
    · rw [decide_eq_true hw, fstN_s h1.2.2 h1.2.1 (m + 1) (by omega)]
      rfl
    · rw [decide_eq_false hw]
      cases hk : fstN P (m + 1) with
      | none => rfl
      | some k =>
        have h2 := fstN_lt hk
        have h3 := fstN_s h2.2.2 h2.2.1 8 (by omega)
        rw [h8] at h3
        cases h3
        omega
theorem wh8_le {c : CA} {p : PG} {j t : Nat} : wh8 (whenN c p j t) ≤ 8 := by
  cases h : whenN c p j t with
  | none => exact Nat.le_refl _
  | some w => have := (fstN_lt h).1; show w ≤ 8; omega
theorem many_pre : ∀ n, n < 7 → ∀ s, s < 2 ^ n → itN (manyF s) 0 n = manyN s ∧ manyN s ≤ n := by decide +kernel
theorem pre_le (s : Nat) : ∀ k, itN (manyF s) 0 k ≤ k := by
  intro k
  induction k with
  | zero => exact Nat.le_refl _
  | succ k ih =>
    show itN (manyF s) 0 k + (s / 2 ^ k &&& 1) ≤ k + 1
    rw [bit_and]
    split <;> omega
def glintsR (c : CA) (p : PG) (y t n x : Int32) (u : Bool) : Int32 := if inB y (nhC c) = true then (if (inB t 5 && (inC n 1 6 && inC x 0 10)) = true then nI (frN (glN (tn x) (tn n) (wh8 (whenN c p (tn y) (tn t)))) (10 ^ tn n) u) else -2) else -1
/-- another light -/
def liN (p : PG) (m : Nat) : PG := (p.1, p.2.1, (pgL p + m) % 8, pgH p)
section GLINTS
variable {X : Nat × (Nat → Int32)} {d : Nat} {c : CA} {p : PG} {t : AH} {tx : TxS} {ca cb : CoS} {kt kd : Nat} {sd : Int64} {nw tr s0 s1 : StS} {ac : AcS} {tu : TuS} {gi : GiS} {mo : MoS} {dn ch : FI}
theorem c_PM_spread {n x : Nat} (hn : n ≤ 6) (hx : x ≤ 10) : Call X d 0 0 M_PM_spreadChances [.ref 1, .int (nI n), .int (nI x)] (hX tx ca cb kt kd sd nw tr ac tu gi mo dn ch s0 s1 ++ t) (fun r h2 => r = some (.int (nI (10 ^ n))) ∧ ∃ ch2 : FI, (∀ k, k ≤ n → ch2 k = nI (chN x n k)) ∧ h2 = hX tx ca cb kt kd sd nw tr ac tu gi mo dn ch2 s0 s1 ++ t) := by
  show Run X d 0 0 M_PM_spreadChances 0 [some (.ref 1), some (.int (nI n)), some (.int (nI x)), none, none, none] [] _ _
  refine Run.iconst (v := nI 1) d_PM_spreadChances_0 ic_1 ?_
  refine Run.istore_n d_PM_spreadChances_1 rfl rfl ?_
  show Run _ _ _ _ _ _ [_, _, _, _, _, _] _ _ _
  refine Run.aload_n d_PM_spreadChances_2 rfl ?_
  refine Run.getf d_PM_spreadChances_3 fl_PM_72 (by first | rfl | assumption) (by rfl) ?_
  refine Run.iconst (v := nI 0) d_PM_spreadChances_6 ic_0 ?_
  refine Run.iconst (v := nI 1) d_PM_spreadChances_7 ic_1 ?_
  refine Run.iast_n d_PM_spreadChances_8 (by first | rfl | assumption) (by omega) (by omega) ?_
  refine run_hp (show _ = hX tx ca cb kt kd sd nw tr ac tu gi mo dn (upd ch 0 (nI 1)) s0 s1 ++ t from rfl) ?_
  refine Run.iconst (v := nI 1) d_PM_spreadChances_9 ic_1 ?_
  refine Run.istore d_PM_spreadChances_10 rfl rfl ?_
  show Run _ _ _ _ _ _ [_, _, _, _, _, _] _ _ _
  refine upto n (fun H => ∀ (ch2 : FI) v5, (∀ k, k ≤ H → ch2 k = nI (chN x H k)) → Run X d 0 0 M_PM_spreadChances 12 [some (.ref 1), some (.int (nI n)), some (.int (nI x)), some (.int (nI (10 ^ H))), some (.int (nI (H + 1))), v5] [] (hX tx ca cb kt kd sd nw tr ac tu gi mo dn ch2 s0 s1 ++ t) (fun r h2 => r = some (.int (nI (10 ^ n))) ∧ ∃ ch2 : FI, (∀ k, k ≤ n → ch2 k = nI (chN x n k)) ∧ h2 = hX tx ca cb kt kd sd nw tr ac tu gi mo dn ch2 s0 s1 ++ t)) ?_ 0 (Nat.zero_le _) (upd ch 0 (nI 1)) none (fun k hk => by rw [show k = 0 by omega, pk_us]; rfl)
  intro H hH ih ch2 v5 he
  have inner : H + 1 ≤ n → ∀ S, S ≤ H + 1 → ∀ ch2 : FI, (∀ k, k ≤ H + 1 → ch2 k = nI (if S < k then chN x (H + 1) k else chN x H k)) → Run X d 0 0 M_PM_spreadChances 35 [some (.ref 1), some (.int (nI n)), some (.int (nI x)), some (.int (nI (10 ^ (H + 1)))), some (.int (nI (H + 1))), some (.int (nI S))] [] (hX tx ca cb kt kd sd nw tr ac tu gi mo dn ch2 s0 s1 ++ t) (fun r h2 => r = some (.int (nI (10 ^ n))) ∧ ∃ ch2 : FI, (∀ k, k ≤ n → ch2 k = nI (chN x n k)) ∧ h2 = hX tx ca cb kt kd sd nw tr ac tu gi mo dn ch2 s0 s1 ++ t) := by
    intro hHn S
    induction S with
    | zero =>
      intro hS ch2 he2
      have e0 := he2 0 (by omega)
      rw [if_neg (by omega)] at e0
      refine Run.iload d_PM_spreadChances_35 rfl ?_
      first | refine Run.if_le_n d_PM_spreadChances_37 (by omega) (fun c37 => ?_) (fun c37 => ?_) | refine Run.if_le d_PM_spreadChances_37 (fun c37 => ?_) (fun c37 => ?_)
      · refine Run.aload_n d_PM_spreadChances_77 rfl ?_
        refine Run.getf d_PM_spreadChances_78 fl_PM_72 (by first | rfl | assumption) (by rfl) ?_
        refine Run.iconst (v := nI 0) d_PM_spreadChances_81 ic_0 ?_
        refine Run.dup2 d_PM_spreadChances_82 rfl rfl ?_
        refine Run.iald_n d_PM_spreadChances_83 (by first | rfl | assumption) (by omega) (by omega) ?_
        rw [e0]
        refine Run.bipush (v := nI 10) d_PM_spreadChances_84 bp_10 ?_
        refine Run.iload_n d_PM_spreadChances_86 rfl ?_
        first | refine Run.isub_n d_PM_spreadChances_87 (by omega) ?_ | refine Run.isub d_PM_spreadChances_87 ?_
        first | refine Run.imul_n d_PM_spreadChances_88 ?_ | refine Run.imul d_PM_spreadChances_88 ?_
        refine Run.iast_n d_PM_spreadChances_89 (by first | rfl | assumption) (by omega) (by omega) ?_
        first | refine Run.iinc_n d_PM_spreadChances_90 ic_1 rfl rfl ?_ | refine Run.iinc d_PM_spreadChances_90 rfl rfl rfl ?_
        show Run _ _ _ _ _ _ [_, _, _, _, _, _] _ _ _
        refine Run.goto d_PM_spreadChances_93 ?_
        refine ih (by omega) (upd ch2 0 (nI (chN x H 0 * (10 - x)))) _ (fun k hk => ?_)
        by_cases hk0 : k = 0
        · subst hk0
          rw [pk_us]
          rfl
        · rw [pk_un hk0, he2 k hk, if_pos (by omega)]
      · omega
    | succ S ihS =>
      intro hS ch2 he2
      have e0 := he2 (S + 1) (by omega)
      have e1 := he2 S (by omega)
      rw [if_neg (by omega)] at e0 e1
      refine Run.iload d_PM_spreadChances_35 rfl ?_
      first | refine Run.if_le_n d_PM_spreadChances_37 (by omega) (fun c37 => ?_) (fun c37 => ?_) | refine Run.if_le d_PM_spreadChances_37 (fun c37 => ?_) (fun c37 => ?_)
      · omega
      · refine Run.aload_n d_PM_spreadChances_40 rfl ?_
        refine Run.getf d_PM_spreadChances_41 fl_PM_72 (by first | rfl | assumption) (by rfl) ?_
        refine Run.iload d_PM_spreadChances_44 rfl ?_
        refine Run.aload_n d_PM_spreadChances_46 rfl ?_
        refine Run.getf d_PM_spreadChances_47 fl_PM_72 (by first | rfl | assumption) (by rfl) ?_
        refine Run.iload d_PM_spreadChances_50 rfl ?_
        refine Run.iald_n d_PM_spreadChances_52 (by first | rfl | assumption) (by omega) (by omega) ?_
        rw [e0]
        refine Run.bipush (v := nI 10) d_PM_spreadChances_53 bp_10 ?_
        refine Run.iload_n d_PM_spreadChances_55 rfl ?_
        first | refine Run.isub_n d_PM_spreadChances_56 (by omega) ?_ | refine Run.isub d_PM_spreadChances_56 ?_
        first | refine Run.imul_n d_PM_spreadChances_57 ?_ | refine Run.imul d_PM_spreadChances_57 ?_
        refine Run.aload_n d_PM_spreadChances_58 rfl ?_
        refine Run.getf d_PM_spreadChances_59 fl_PM_72 (by first | rfl | assumption) (by rfl) ?_
        refine Run.iload d_PM_spreadChances_62 rfl ?_
        refine Run.iconst (v := nI 1) d_PM_spreadChances_64 ic_1 ?_
        first | refine Run.isub_n d_PM_spreadChances_65 (by omega) ?_ | refine Run.isub d_PM_spreadChances_65 ?_
        rw [Nat.add_sub_cancel]
        refine Run.iald_n d_PM_spreadChances_66 (by first | rfl | assumption) (by omega) (by omega) ?_
        rw [e1]
        refine Run.iload_n d_PM_spreadChances_67 rfl ?_
        first | refine Run.imul_n d_PM_spreadChances_68 ?_ | refine Run.imul d_PM_spreadChances_68 ?_
        first | refine Run.iadd_n d_PM_spreadChances_69 ?_ | refine Run.iadd d_PM_spreadChances_69 ?_
        refine Run.iast_n d_PM_spreadChances_70 (by first | rfl | assumption) (by omega) (by omega) ?_
        first | refine Run.iinc_d d_PM_spreadChances_71 ic_m1 rfl rfl ?_ | refine Run.iinc d_PM_spreadChances_71 rfl rfl rfl ?_
        show Run _ _ _ _ _ _ [_, _, _, _, _, _] _ _ _
        refine Run.goto d_PM_spreadChances_74 ?_
        refine ihS (by omega) (upd ch2 (S + 1) (nI (chN x H (S + 1) * (10 - x) + chN x H S * x))) (fun k hk => ?_)
        by_cases hk0 : k = S + 1
        · subst hk0
          rw [pk_us, if_pos (by omega)]
          rfl
        · rw [pk_un hk0, he2 k hk]
          by_cases hkS : S + 1 < k
          · rw [if_pos hkS, if_pos (by omega)]
          · rw [if_neg hkS, if_neg (by omega)]
  refine Run.iload d_PM_spreadChances_12 rfl ?_
  refine Run.iload_n d_PM_spreadChances_14 rfl ?_
  first | refine Run.icmp_gt_n d_PM_spreadChances_15 (by omega) (by omega) (fun c15 => ?_) (fun c15 => ?_) | refine Run.icmp_gt d_PM_spreadChances_15 (fun c15 => ?_) (fun c15 => ?_)
  · refine Run.iload_n d_PM_spreadChances_96 rfl ?_
    refine Run.iret d_PM_spreadChances_97 rfl rfl ?_
    have e8 : H = n := by omega
    subst e8
    exact ⟨rfl, ch2, he, rfl⟩
  · refine Run.iload_n d_PM_spreadChances_18 rfl ?_
    refine Run.bipush (v := nI 10) d_PM_spreadChances_19 bp_10 ?_
    first | refine Run.imul_n d_PM_spreadChances_21 ?_ | refine Run.imul d_PM_spreadChances_21 ?_
    refine Run.istore_n d_PM_spreadChances_22 rfl rfl ?_
    show Run _ _ _ _ _ _ [_, _, _, _, _, _] _ _ _
    refine Run.aload_n d_PM_spreadChances_23 rfl ?_
    refine Run.getf d_PM_spreadChances_24 fl_PM_72 (by first | rfl | assumption) (by rfl) ?_
    refine Run.iload d_PM_spreadChances_27 rfl ?_
    refine Run.iconst (v := nI 0) d_PM_spreadChances_29 ic_0 ?_
    refine Run.iast_n d_PM_spreadChances_30 (by first | rfl | assumption) (by omega) (by omega) ?_
    refine run_hp (show _ = hX tx ca cb kt kd sd nw tr ac tu gi mo dn (upd ch2 (H + 1) (nI 0)) s0 s1 ++ t from rfl) ?_
    refine Run.iload d_PM_spreadChances_31 rfl ?_
    refine Run.istore d_PM_spreadChances_33 rfl rfl ?_
    show Run _ _ _ _ _ _ [_, _, _, _, _, _] _ _ _
    refine inner (by omega) (H + 1) (Nat.le_refl _) _ (fun k hk => ?_)
    rw [if_neg (by omega)]
    by_cases hk0 : k = H + 1
    · subst hk0
      rw [pk_us, chN_hi x H (H + 1) (by omega)]
    · rw [pk_un hk0]
      exact he k (by omega)
theorem r_glints102 {j z n x g : Nat} {u : Bool} {R0 : Int32} {v8 v9 : Option Value} (hn : n ≤ 6) (hg : g ≤ 1000000) (hR : R0 = nI (frN g (10 ^ n) u)) : Run X (d + 7) 0 0 M_PM_glints 102 [some (.ref 1), some (.int (nI j)), some (.int (nI z)), some (.int (nI n)), some (.int (nI x)), some (.int (bI u)), some (.int (nI (10 ^ n))), some (.int (nI g)), v8, v9] [] (hX tx ca cb kt kd sd nw tr ac tu gi mo dn ch s0 s1 ++ t) (fun r h2 => r = some (.int R0) ∧ ∃ ch2 : FI, h2 = hX tx ca cb kt kd sd nw tr ac tu gi mo dn ch2 s0 s1 ++ t) := by
  have hp : 0 < 10 ^ n := Nat.pow_pos (by omega)
  have hl : 10 ^ n ≤ 10 ^ 6 := Nat.pow_le_pow_right (by omega) hn
  refine Run.iload d_PM_glints_102 rfl ?_
  refine Run.iload d_PM_glints_104 rfl ?_
  refine Run.iload d_PM_glints_106 rfl ?_
  refine Run.S3r d_PM_glints_108 lk_PM_227 cm_PM_inLeastTerms st_PM_inLeastTerms (Nat.le_of_ble_eq_true rfl) (Nat.le_of_ble_eq_true rfl) (c_PM_inLeastTerms (by omega) hp (by omega)) ?_
  refine Run.iret d_PM_glints_111 rfl rfl ?_
  exact ⟨by rw [hR], ch, rfl⟩
theorem r_glints67 {j z n x : Nat} {u : Bool} {R0 : Int32} (hn : n ≤ 6) (hx : x ≤ 10) (hch : ∀ k, k ≤ n → ch k = nI (chN x n k)) (hR : R0 = nI (frN (glN x n (wh8 (whenN c p j z))) (10 ^ n) u)) : Run X (d + 7) 0 0 M_PM_glints 67 [some (.ref 1), some (.int (nI j)), some (.int (nI z)), some (.int (nI n)), some (.int (nI x)), some (.int (bI u)), some (.int (nI (10 ^ n))), some (.int (nI 0)), some (.int (oI (whenN c p j z))), none] [] (hX tx ca cb kt kd sd nw tr ac tu gi mo dn ch s0 s1 ++ t) (fun r h2 => r = some (.int R0) ∧ ∃ ch2 : FI, h2 = hX tx ca cb kt kd sd nw tr ac tu gi mo dn ch2 s0 s1 ++ t) := by
  have hb := (gl_eq hn hx (wh8_le (c := c) (p := p) (j := j) (t := z))).2
  cases hw : whenN c p j z with
  | none =>
    rw [hw] at hR hb
    have e0 : glN x n (wh8 none) = 0 := gl_lo x n 8 (n + 1) (by omega)
    rw [e0] at hR
    refine Run.iload d_PM_glints_67 rfl ?_
    refine Run.bipush (v := -9) d_PM_glints_69 bp_m9 ?_
    first | refine Run.icmp_eq_n d_PM_glints_71 (by omega) (by omega) (fun c71 => ?_) (fun c71 => ?_) | refine Run.icmp_eq d_PM_glints_71 (fun c71 => ?_) (fun c71 => ?_)
    · exact r_glints102 hn (by omega) hR
    · exact absurd rfl c71
  | some w =>
    rw [hw] at hR hb
    have hw8 := (fstN_lt hw).1
    have key : ∀ s, s ≤ w + n + 2 → w ≤ s → (s = w ∨ s ≤ n + 1) → Run X (d + 7) 0 0 M_PM_glints 78 [some (.ref 1), some (.int (nI j)), some (.int (nI z)), some (.int (nI n)), some (.int (nI x)), some (.int (bI u)), some (.int (nI (10 ^ n))), some (.int (nI (itN (glF x n w) 0 s))), some (.int (nI w)), some (.int (nI s))] [] (hX tx ca cb kt kd sd nw tr ac tu gi mo dn ch s0 s1 ++ t) (fun r h2 => r = some (.int R0) ∧ ∃ ch2 : FI, h2 = hX tx ca cb kt kd sd nw tr ac tu gi mo dn ch2 s0 s1 ++ t) := by
      refine upto (w + n + 2) (fun s => w ≤ s → (s = w ∨ s ≤ n + 1) → Run X (d + 7) 0 0 M_PM_glints 78 [some (.ref 1), some (.int (nI j)), some (.int (nI z)), some (.int (nI n)), some (.int (nI x)), some (.int (bI u)), some (.int (nI (10 ^ n))), some (.int (nI (itN (glF x n w) 0 s))), some (.int (nI w)), some (.int (nI s))] [] (hX tx ca cb kt kd sd nw tr ac tu gi mo dn ch s0 s1 ++ t) (fun r h2 => r = some (.int R0) ∧ ∃ ch2 : FI, h2 = hX tx ca cb kt kd sd nw tr ac tu gi mo dn ch2 s0 s1 ++ t)) ?_
      intro s hs ih hws hI
      refine Run.iload d_PM_glints_78 rfl ?_
      refine Run.iload_n d_PM_glints_80 rfl ?_
      first | refine Run.icmp_gt_n d_PM_glints_81 (by omega) (by omega) (fun c81 => ?_) (fun c81 => ?_) | refine Run.icmp_gt d_PM_glints_81 (fun c81 => ?_) (fun c81 => ?_)
      · have e8 : itN (glF x n w) 0 s = glN x n w := by
          by_cases hq : s = n + 1
          · rw [hq]; rfl
          · rw [glN, gl_lo x n w (n + 1) (by omega), gl_lo x n w s (by omega)]
        rw [e8]
        exact r_glints102 hn hb hR
      · refine Run.iload d_PM_glints_84 rfl ?_
        refine Run.aload_n d_PM_glints_86 rfl ?_
        refine Run.getf d_PM_glints_87 fl_PM_72 (by first | rfl | assumption) (by rfl) ?_
        refine Run.iload d_PM_glints_90 rfl ?_
        refine Run.iald_n d_PM_glints_92 (by first | rfl | assumption) (by omega) (by omega) ?_
        rw [hch s (by omega)]
        first | refine Run.iadd_n d_PM_glints_93 ?_ | refine Run.iadd d_PM_glints_93 ?_
        refine Run.istore d_PM_glints_94 rfl rfl ?_
        show Run _ _ _ _ _ _ [_, _, _, _, _, _, _, _, _, _] _ _ _
        first | refine Run.iinc_n d_PM_glints_96 ic_1 rfl rfl ?_ | refine Run.iinc d_PM_glints_96 rfl rfl rfl ?_
        show Run _ _ _ _ _ _ [_, _, _, _, _, _, _, _, _, _] _ _ _
        refine Run.goto d_PM_glints_99 ?_
        refine run_cg ?_ (ih (by omega) (by omega) (by omega))
        rw [show itN (glF x n w) 0 (s + 1) = itN (glF x n w) 0 s + chN x n s from if_pos hws]
    have k0 := key w (by omega) (Nat.le_refl _) (Or.inl rfl)
    rw [gl_lo x n w w (Nat.le_refl _)] at k0
    show Run _ _ _ _ _ _ [_, _, _, _, _, _, _, _, some (.int (nI w)), _] _ _ _
    refine Run.iload d_PM_glints_67 rfl ?_
    refine Run.bipush (v := -9) d_PM_glints_69 bp_m9 ?_
    first | refine Run.icmp_eq_n d_PM_glints_71 (by omega) (by omega) (fun c71 => ?_) (fun c71 => ?_) | refine Run.icmp_eq d_PM_glints_71 (fun c71 => ?_) (fun c71 => ?_)
    · exact absurd c71 (nI_n9 (by omega))
    · refine Run.iload d_PM_glints_74 rfl ?_
      refine Run.istore d_PM_glints_76 rfl rfl ?_
      show Run _ _ _ _ _ _ [_, _, _, _, _, _, _, _, _, _] _ _ _
      exact k0
theorem q_PM_glints {y z n x : Int32} {u : Bool} (hc : coOK c) (hp : pgOK c p) (ht : TR c ca cb kt kd) (hst : StR c p nw) : Call X (d + 7) 0 0 M_PM_glints [.ref 1, .int y, .int z, .int n, .int x, .int (bI u)] (hX tx ca cb kt kd sd nw tr ac tu gi mo dn ch s0 s1 ++ t) (fun r h2 => r = some (.int (glintsR c p y z n x u)) ∧ ∃ ch2 : FI, h2 = hX tx ca cb kt kd sd nw tr ac tu gi mo dn ch2 s0 s1 ++ t) := by
  show Run X (d + 7) 0 0 M_PM_glints 0 [some (.ref 1), some (.int y), some (.int z), some (.int n), some (.int x), some (.int (bI u)), none, none, none, none] [] _ _
  have hco := TR.at (tx := tx) (sd := sd) (nw := nw) (tr := tr) (ac := ac) (tu := tu) (gi := gi) (mo := mo) (dn := dn) (ch := ch) (s0 := s0) (s1 := s1) (t := t) ht
  obtain ⟨fhk, fpt, fan, fkd, fhd, li, g0, -⟩ := id hco
  have b1 := hc.1
  refine Run.aload_n d_PM_glints_0 rfl ?_
  refine Run.getf d_PM_glints_1 fl_PM_19 (by first | rfl | assumption) (by rfl) ?_
  refine Run.iload_n d_PM_glints_4 rfl ?_
  refine Run.V1r d_PM_glints_5 lk_PM_119 cm_Co_hasHolder iv_Co_hasHolder rfl (by first | rfl | assumption) (Nat.le_of_ble_eq_true rfl) (Nat.le_of_ble_eq_true rfl) (c_Co_hasHolder hco) ?_
  first | refine Run.if_ne_b d_PM_glints_8 (fun c8 => ?_) (fun c8 => ?_) | refine Run.if_ne_n d_PM_glints_8 (by omega) (fun c8 => ?_) (fun c8 => ?_) | refine Run.if_ne d_PM_glints_8 (fun c8 => ?_) (fun c8 => ?_)
  · refine Run.iload_n d_PM_glints_13 rfl ?_
    refine Run.iconst (v := nI 5) d_PM_glints_14 ic_5 ?_
    refine Run.S2r d_PM_glints_15 lk_PM_158 cm_PM_isBelow st_PM_isBelow (Nat.le_of_ble_eq_true rfl) (Nat.le_of_ble_eq_true rfl) (c_PM_isBelow) ?_
    first | refine Run.if_eq_b d_PM_glints_18 (fun c18 => ?_) (fun c18 => ?_) | refine Run.if_eq_n d_PM_glints_18 (by omega) (fun c18 => ?_) (fun c18 => ?_) | refine Run.if_eq d_PM_glints_18 (fun c18 => ?_) (fun c18 => ?_)
    · have c18 : inB z 5 = false := c18
      refine Run.bipush (v := -2) d_PM_glints_44 bp_m2 ?_
      refine Run.iret d_PM_glints_46 rfl rfl ?_
      refine ⟨?_, ch, rfl⟩
      first
        | (rw [glintsR, if_pos c8, c18, Bool.false_and, if_neg (by decide)]; done)
        | (rw [glintsR, if_pos c8, inC_lo c23, Bool.false_and, Bool.and_false, if_neg (by decide)]; done)
        | (rw [glintsR, if_pos c8, inC_hi c29, Bool.false_and, Bool.and_false, if_neg (by decide)]; done)
        | (rw [glintsR, if_pos c8, inC_lo (x := x) (a := 0) (b := 10) (by rw [nI_0]; exact c34), Bool.and_false, Bool.and_false, if_neg (by decide)]; done)
        | (rw [glintsR, if_pos c8, inC_hi (Int32.not_le.mp c41), Bool.and_false, Bool.and_false, if_neg (by decide)]; done)
    · have c18 : inB z 5 = true := c18
      refine Run.iload_n d_PM_glints_21 rfl ?_
      refine Run.iconst (v := nI 1) d_PM_glints_22 ic_1 ?_
      first | refine Run.icmp_lt_n d_PM_glints_23 (by omega) (by omega) (fun c23 => ?_) (fun c23 => ?_) | refine Run.icmp_lt d_PM_glints_23 (fun c23 => ?_) (fun c23 => ?_)
      · refine Run.bipush (v := -2) d_PM_glints_44 bp_m2 ?_
        refine Run.iret d_PM_glints_46 rfl rfl ?_
        refine ⟨?_, ch, rfl⟩
        first
          | (rw [glintsR, if_pos c8, c18, Bool.false_and, if_neg (by decide)]; done)
          | (rw [glintsR, if_pos c8, inC_lo c23, Bool.false_and, Bool.and_false, if_neg (by decide)]; done)
          | (rw [glintsR, if_pos c8, inC_hi c29, Bool.false_and, Bool.and_false, if_neg (by decide)]; done)
          | (rw [glintsR, if_pos c8, inC_lo (x := x) (a := 0) (b := 10) (by rw [nI_0]; exact c34), Bool.and_false, Bool.and_false, if_neg (by decide)]; done)
          | (rw [glintsR, if_pos c8, inC_hi (Int32.not_le.mp c41), Bool.and_false, Bool.and_false, if_neg (by decide)]; done)
      · refine Run.iload_n d_PM_glints_26 rfl ?_
        refine Run.bipush (v := nI 6) d_PM_glints_27 bp_6 ?_
        first | refine Run.icmp_gt_n d_PM_glints_29 (by omega) (by omega) (fun c29 => ?_) (fun c29 => ?_) | refine Run.icmp_gt d_PM_glints_29 (fun c29 => ?_) (fun c29 => ?_)
        · refine Run.bipush (v := -2) d_PM_glints_44 bp_m2 ?_
          refine Run.iret d_PM_glints_46 rfl rfl ?_
          refine ⟨?_, ch, rfl⟩
          first
            | (rw [glintsR, if_pos c8, c18, Bool.false_and, if_neg (by decide)]; done)
            | (rw [glintsR, if_pos c8, inC_lo c23, Bool.false_and, Bool.and_false, if_neg (by decide)]; done)
            | (rw [glintsR, if_pos c8, inC_hi c29, Bool.false_and, Bool.and_false, if_neg (by decide)]; done)
            | (rw [glintsR, if_pos c8, inC_lo (x := x) (a := 0) (b := 10) (by rw [nI_0]; exact c34), Bool.and_false, Bool.and_false, if_neg (by decide)]; done)
            | (rw [glintsR, if_pos c8, inC_hi (Int32.not_le.mp c41), Bool.and_false, Bool.and_false, if_neg (by decide)]; done)
        · refine Run.iload d_PM_glints_32 rfl ?_
          refine Run.if_lt d_PM_glints_34 (fun c34 => ?_) (fun c34 => ?_)
          · refine Run.bipush (v := -2) d_PM_glints_44 bp_m2 ?_
            refine Run.iret d_PM_glints_46 rfl rfl ?_
            refine ⟨?_, ch, rfl⟩
            first
              | (rw [glintsR, if_pos c8, c18, Bool.false_and, if_neg (by decide)]; done)
              | (rw [glintsR, if_pos c8, inC_lo c23, Bool.false_and, Bool.and_false, if_neg (by decide)]; done)
              | (rw [glintsR, if_pos c8, inC_hi c29, Bool.false_and, Bool.and_false, if_neg (by decide)]; done)
              | (rw [glintsR, if_pos c8, inC_lo (x := x) (a := 0) (b := 10) (by rw [nI_0]; exact c34), Bool.and_false, Bool.and_false, if_neg (by decide)]; done)
              | (rw [glintsR, if_pos c8, inC_hi (Int32.not_le.mp c41), Bool.and_false, Bool.and_false, if_neg (by decide)]; done)
          · refine Run.iload d_PM_glints_37 rfl ?_
            refine Run.bipush (v := nI 10) d_PM_glints_39 bp_10 ?_
            first | refine Run.icmp_le_n d_PM_glints_41 (by omega) (by omega) (fun c41 => ?_) (fun c41 => ?_) | refine Run.icmp_le d_PM_glints_41 (fun c41 => ?_) (fun c41 => ?_)
            · have hN := inC_in c23 c29
              have hX := inC_in (a := 0) (b := 10) (x := x) (by rw [nI_0]; exact c34) (Int32.not_lt.mpr c41)
              have hR : glintsR c p y z n x u = nI (frN (glN (tn x) (tn n) (wh8 (whenN c p (tn y) (tn z)))) (10 ^ tn n) u) := by
                rw [glintsR, if_pos c8, c18, hN, hX]
                rfl
              obtain ⟨j, hj, rfl⟩ := inB_t (by omega) c8
              obtain ⟨zz, hz, rfl⟩ := inB_t (n := 5) (by omega) c18
              obtain ⟨n0, hn1, hn2, rfl⟩ := inC_t (by omega) (by omega) hN
              obtain ⟨x0, -, hx2, rfl⟩ := inC_t (by omega) (by omega) hX
              rw [tn_nI (by omega), tn_nI (by omega), tn_nI (by omega), tn_nI (by omega)] at hR
              refine Run.aload_n d_PM_glints_47 rfl ?_
              refine Run.iload_n d_PM_glints_48 rfl ?_
              refine Run.iload d_PM_glints_49 rfl ?_
              refine Run.V2 d_PM_glints_51 lk_PM_252 cm_PM_spreadChances iv_PM_spreadChances rfl (by first | rfl | assumption) (Nat.le_of_ble_eq_true rfl) (Nat.le_of_ble_eq_true rfl) (c_PM_spread hn2 hx2) (fun r51 h51 q51 => ?_)
              obtain ⟨rfl, ch2, hch2, rfl⟩ := q51
              refine Run.istore d_PM_glints_54 rfl rfl ?_
              show Run _ _ _ _ _ _ [_, _, _, _, _, _, _, _, _, _] _ _ _
              refine Run.iconst (v := nI 0) d_PM_glints_56 ic_0 ?_
              refine Run.istore d_PM_glints_57 rfl rfl ?_
              show Run _ _ _ _ _ _ [_, _, _, _, _, _, _, _, _, _] _ _ _
              refine Run.aload_n d_PM_glints_59 rfl ?_
              refine Run.iload_n d_PM_glints_60 rfl ?_
              refine Run.iload_n d_PM_glints_61 rfl ?_
              refine Run.V2r d_PM_glints_62 lk_PM_196 cm_PM_hoursUntilSeen iv_PM_hoursUntilSeen rfl (by first | rfl | assumption) (Nat.le_of_ble_eq_true rfl) (Nat.le_of_ble_eq_true rfl) (c_PM_hoursUntilSeen hc hp ht.tl hst.now hj hz) ?_
              refine Run.istore d_PM_glints_65 rfl rfl ?_
              show Run _ _ _ _ _ _ [_, _, _, _, _, _, _, _, _, _] _ _ _
              exact r_glints67 hn2 hx2 hch2 hR
            · refine Run.bipush (v := -2) d_PM_glints_44 bp_m2 ?_
              refine Run.iret d_PM_glints_46 rfl rfl ?_
              refine ⟨?_, ch, rfl⟩
              first
                | (rw [glintsR, if_pos c8, c18, Bool.false_and, if_neg (by decide)]; done)
                | (rw [glintsR, if_pos c8, inC_lo c23, Bool.false_and, Bool.and_false, if_neg (by decide)]; done)
                | (rw [glintsR, if_pos c8, inC_hi c29, Bool.false_and, Bool.and_false, if_neg (by decide)]; done)
                | (rw [glintsR, if_pos c8, inC_lo (x := x) (a := 0) (b := 10) (by rw [nI_0]; exact c34), Bool.and_false, Bool.and_false, if_neg (by decide)]; done)
                | (rw [glintsR, if_pos c8, inC_hi (Int32.not_le.mp c41), Bool.and_false, Bool.and_false, if_neg (by decide)]; done)
  · refine Run.iconst (v := -1) d_PM_glints_11 ic_m1 ?_
    refine Run.iret d_PM_glints_12 rfl rfl ?_
    exact ⟨by rw [glintsR, if_neg (by rw [c8]; decide)], ch, rfl⟩
end GLINTS
section RGLINTS
variable {X : Nat × (Nat → Int32)} {d : Nat} {c : CA} {p : PG} {f0 : Nat → AC} {nu : NuS} {tx ho pi rh rp pg tr bk kp ik ta tp ga gr va rw : FI}
theorem seen_li (c : CA) (p : PG) (m j : Nat) : seenN c (liN p m) j = seenN c (hourN p m) j := rfl
theorem r_glints93 {j z n x s A : Nat} {u : Bool} {R0 : Int32} (hc : coOK c) (hp : pgOK c p) (hr : RfR c nu.2.2.1 nu.2.2.2.1 ho pi) (hg : PgV c (liN p 0) tr) (hj : j < nhC c) (hz : z < 5) (hn : n ≤ 6) (hs : s < 2 ^ n)
    (kk : ∀ (t2 : FI) v9, Run X (d + 5) 0 0 M_Rf_glints 160 [some (.ref 44), some (.int (nI j)), some (.int (nI z)), some (.int (nI n)), some (.int (nI x)), some (.int (bI u)), some (.int (nI A)), some (.int (nI s)), some (.int (bI (decide (wh8 (whenN c p j z) ≤ manyN s)))), v9] [] (PX f0 ++ hM nu tx ho pi rh rp pg t2 bk kp ik ta tp ga gr va rw) (fun r h2 => r = some (.int R0) ∧ ∃ t2, h2 = PX f0 ++ hM nu tx ho pi rh rp pg t2 bk kp ik ta tp ga gr va rw)) : Run X (d + 5) 0 0 M_Rf_glints 93 [some (.ref 44), some (.int (nI j)), some (.int (nI z)), some (.int (nI n)), some (.int (nI x)), some (.int (bI u)), some (.int (nI A)), some (.int (nI s)), some (.int (bI ((fstN (whenP c p j z) 1).isSome))), some (.int (nI 0))] [] (PX f0 ++ hM nu tx ho pi rh rp pg tr bk kp ik ta tp ga gr va rw) (fun r h2 => r = some (.int R0) ∧ ∃ t2, h2 = PX f0 ++ hM nu tx ho pi rh rp pg t2 bk kp ik ta tp ga gr va rw) := by
  have b1 := hc.1
  have b2 := hc.2.1
  have hN : 2 ^ n ≤ 64 := Nat.pow_le_pow_right (n := 2) (by omega) hn
  have hmp := many_pre n (by omega) s hs
  refine upto n (fun k => ∀ t2 : FI, PgV c (liN p (itN (manyF s) 0 k)) t2 → Run X (d + 5) 0 0 M_Rf_glints 93 [some (.ref 44), some (.int (nI j)), some (.int (nI z)), some (.int (nI n)), some (.int (nI x)), some (.int (bI u)), some (.int (nI A)), some (.int (nI s)), some (.int (bI ((fstN (whenP c p j z) (itN (manyF s) 0 k + 1)).isSome))), some (.int (nI k))] [] (PX f0 ++ hM nu tx ho pi rh rp pg t2 bk kp ik ta tp ga gr va rw) (fun r h2 => r = some (.int R0) ∧ ∃ t2, h2 = PX f0 ++ hM nu tx ho pi rh rp pg t2 bk kp ik ta tp ga gr va rw)) ?_ 0 (Nat.zero_le _) tr hg
  intro k hk ih t2 he
  have hl : t2 12 = nI ((pgL p + itN (manyF s) 0 k) % 8) := he.2.1
  have hst : itN (manyF s) 0 (k + 1) = itN (manyF s) 0 k + (s / 2 ^ k &&& 1) := rfl
  have hbk : (s / 2 ^ k &&& 1) = 0 ∨ (s / 2 ^ k &&& 1) = 1 := by rw [bit_and]; split <;> omega
  generalize hm : itN (manyF s) 0 k = m at he hl hst ⊢
  generalize hb : (s / 2 ^ k &&& 1) = b at hbk hst
  rw [hst] at ih
  have hp2 : pgOK c (liN p (m + b)) := ⟨Nat.mod_lt _ (by omega), hp.2.1, hp.2.2⟩
  have w1 := seenN_lt hc (hourN p (m + b)) j
  have hP : (seenN c (hourN p (m + b)) j).testBit z = whenP c p j z (m + b) := rfl
  have h1 : (fstN (whenP c p j z) (m + b + 1)).isSome = ((fstN (whenP c p j z) (m + 1)).isSome || whenP c p j z (m + b)) := by
    rcases hbk with q | q
    · rw [q, Nat.add_zero, fst_ss]
      cases (fstN (whenP c p j z) m).isSome <;> cases whenP c p j z m <;> rfl
    · rw [q, fst_ss]
  have hk8 : k < 6 → m < 8 := fun q => by have := pre_le s k; omega
  have hg2 : PgV c (liN p (m + b)) (upd t2 12 (nI (((pgL p + m) % 8 + b) % 8))) := by
    refine ⟨fun i hi => ?_, ?_, ?_⟩
    · rw [pk_un (by omega), pk_un (by omega)]
      exact he.1 i hi
    · rw [pk_us]
      show nI _ = nI ((pgL p + (m + b)) % 8)
      congr 1
      omega
    · rw [pk_un (by omega)]
      exact he.2.2
  refine Run.iload d_Rf_glints_93 rfl ?_
  refine Run.iload_n d_Rf_glints_95 rfl ?_
  first | refine Run.icmp_ge_n d_Rf_glints_96 (by omega) (by omega) (fun c96 => ?_) (fun c96 => ?_) | refine Run.icmp_ge d_Rf_glints_96 (fun c96 => ?_) (fun c96 => ?_)
  · have e8 : k = n := by omega
    subst e8
    rw [hmp.1] at hm
    rw [← hm, fst_w (by omega)]
    exact kk t2 _
  · refine Run.aload_n d_Rf_glints_99 rfl ?_
    refine Run.getf d_Rf_glints_100 fl_Rf_28 (by first | rfl | assumption) (by rfl) ?_
    refine Run.bipush (v := nI 12) d_Rf_glints_103 bp_12 ?_
    refine Run.aload_n d_Rf_glints_105 rfl ?_
    refine Run.getf d_Rf_glints_106 fl_Rf_28 (by first | rfl | assumption) (by rfl) ?_
    refine Run.bipush (v := nI 12) d_Rf_glints_109 bp_12 ?_
    refine Run.iald_n d_Rf_glints_111 (by first | rfl | assumption) (by omega) (by omega) ?_
    rw [hl]
    refine Run.iload d_Rf_glints_112 rfl ?_
    refine Run.iload d_Rf_glints_114 rfl ?_
    first | refine Run.ishr_n d_Rf_glints_116 (by omega) (by omega) ?_ | refine Run.ishr d_Rf_glints_116 ?_
    refine Run.iconst (v := nI 1) d_Rf_glints_117 ic_1 ?_
    first | refine Run.iand_n d_Rf_glints_118 ?_ | refine Run.iand d_Rf_glints_118 ?_
    rw [hb]
    first | refine Run.iadd_n d_Rf_glints_119 ?_ | refine Run.iadd d_Rf_glints_119 ?_
    refine Run.bipush (v := nI 8) d_Rf_glints_120 bp_8 ?_
    first | refine Run.irem_n d_Rf_glints_122 (by omega) (by omega) (by omega) ?_ | refine Run.irem d_Rf_glints_122 (by decide +kernel) ?_
    refine Run.iast_n d_Rf_glints_123 (by first | rfl | assumption) (by omega) (by omega) ?_
    refine run_hp (show _ = PX f0 ++ hM nu tx ho pi rh rp pg (upd t2 12 (nI (((pgL p + m) % 8 + b) % 8))) bk kp ik ta tp ga gr va rw from rfl) ?_
    refine Run.iload d_Rf_glints_124 rfl ?_
    first | refine Run.if_ne_b d_Rf_glints_126 (fun c126 => ?_) (fun c126 => ?_) | refine Run.if_ne_n d_Rf_glints_126 (by omega) (fun c126 => ?_) (fun c126 => ?_) | refine Run.if_ne d_Rf_glints_126 (fun c126 => ?_) (fun c126 => ?_)
    · refine Run.iconst (v := nI 1) d_Rf_glints_147 ic_1 ?_
      refine Run.goto d_Rf_glints_148 ?_
      refine Run.istore d_Rf_glints_152 rfl rfl ?_
      show Run _ _ _ _ _ _ [_, _, _, _, _, _, _, _, _, _] _ _ _
      first | refine Run.iinc_n d_Rf_glints_154 ic_1 rfl rfl ?_ | refine Run.iinc d_Rf_glints_154 rfl rfl rfl ?_
      show Run _ _ _ _ _ _ [_, _, _, _, _, _, _, _, _, _] _ _ _
      refine Run.goto d_Rf_glints_157 ?_
      first
      | (have q1 := ih c96 _ hg2; rw [h1, c126, Bool.true_or] at q1; exact q1)
      | (have q2 : whenP c p j z (m + b) = true := c144
         have q1 := ih c96 _ hg2; rw [h1, q2, Bool.or_true] at q1; exact q1)
      | (have q2 : whenP c p j z (m + b) = false := c144
         have q1 := ih c96 _ hg2; rw [h1, c126, q2] at q1; exact q1)
    · refine Run.aload_n d_Rf_glints_129 rfl ?_
      refine Run.aload_n d_Rf_glints_130 rfl ?_
      refine Run.getf d_Rf_glints_131 fl_Rf_28 (by first | rfl | assumption) (by rfl) ?_
      refine Run.iload_n d_Rf_glints_134 rfl ?_
      refine Run.bipush (v := nI 63) d_Rf_glints_135 bp_63 ?_
      refine Run.V3r d_Rf_glints_137 lk_Rf_135 cm_Rf_seesOf iv_Rf_seesOf rfl (by first | rfl | assumption) (Nat.le_of_ble_eq_true rfl) (Nat.le_of_ble_eq_true rfl) (c_Rf_seesOf hc hp2 hr.at hg2.a50 (by omega) (by omega)) ?_
      rw [sesN_63 b2, seen_li]
      refine Run.iload_n d_Rf_glints_140 rfl ?_
      refine Run.S2r d_Rf_glints_141 lk_Rf_127 cm_Rf_has st_Rf_has (Nat.le_of_ble_eq_true rfl) (Nat.le_of_ble_eq_true rfl) (c_Rf_has (by omega) (by omega)) ?_
      first | refine Run.if_eq_b d_Rf_glints_144 (fun c144 => ?_) (fun c144 => ?_) | refine Run.if_eq_n d_Rf_glints_144 (by omega) (fun c144 => ?_) (fun c144 => ?_) | refine Run.if_eq d_Rf_glints_144 (fun c144 => ?_) (fun c144 => ?_)
      · refine Run.iconst (v := nI 0) d_Rf_glints_151 ic_0 ?_
        refine Run.istore d_Rf_glints_152 rfl rfl ?_
        show Run _ _ _ _ _ _ [_, _, _, _, _, _, _, _, _, _] _ _ _
        first | refine Run.iinc_n d_Rf_glints_154 ic_1 rfl rfl ?_ | refine Run.iinc d_Rf_glints_154 rfl rfl rfl ?_
        show Run _ _ _ _ _ _ [_, _, _, _, _, _, _, _, _, _] _ _ _
        refine Run.goto d_Rf_glints_157 ?_
        first
        | (have q1 := ih c96 _ hg2; rw [h1, c126, Bool.true_or] at q1; exact q1)
        | (have q2 : whenP c p j z (m + b) = true := c144
           have q1 := ih c96 _ hg2; rw [h1, q2, Bool.or_true] at q1; exact q1)
        | (have q2 : whenP c p j z (m + b) = false := c144
           have q1 := ih c96 _ hg2; rw [h1, c126, q2] at q1; exact q1)
      · refine Run.iconst (v := nI 1) d_Rf_glints_147 ic_1 ?_
        refine Run.goto d_Rf_glints_148 ?_
        refine Run.istore d_Rf_glints_152 rfl rfl ?_
        show Run _ _ _ _ _ _ [_, _, _, _, _, _, _, _, _, _] _ _ _
        first | refine Run.iinc_n d_Rf_glints_154 ic_1 rfl rfl ?_ | refine Run.iinc d_Rf_glints_154 rfl rfl rfl ?_
        show Run _ _ _ _ _ _ [_, _, _, _, _, _, _, _, _, _] _ _ _
        refine Run.goto d_Rf_glints_157 ?_
        first
        | (have q1 := ih c96 _ hg2; rw [h1, c126, Bool.true_or] at q1; exact q1)
        | (have q2 : whenP c p j z (m + b) = true := c144
           have q1 := ih c96 _ hg2; rw [h1, q2, Bool.or_true] at q1; exact q1)
        | (have q2 : whenP c p j z (m + b) = false := c144
           have q1 := ih c96 _ hg2; rw [h1, c126, q2] at q1; exact q1)
theorem r_glints61 {j z n x : Nat} {u : Bool} {R0 : Int32} (hc : coOK c) (hp : pgOK c p) (hr : RfR c nu.2.2.1 nu.2.2.2.1 ho pi) (hg : PgV c p pg) (hj : j < nhC c) (hz : z < 5) (hn : n ≤ 6) (hx : x ≤ 10) (hR : R0 = nI (frN (glN x n (wh8 (whenN c p j z))) (10 ^ n) u)) : Run X (d + 5) 0 0 M_Rf_glints 61 [some (.ref 44), some (.int (nI j)), some (.int (nI z)), some (.int (nI n)), some (.int (nI x)), some (.int (bI u)), some (.int (nI 0)), some (.int (nI 0)), none, none] [] (PX f0 ++ hM nu tx ho pi rh rp pg tr bk kp ik ta tp ga gr va rw) (fun r h2 => r = some (.int R0) ∧ ∃ t2, h2 = PX f0 ++ hM nu tx ho pi rh rp pg t2 bk kp ik ta tp ga gr va rw) := by
  have b1 := hc.1
  have b2 := hc.2.1
  have hN : 2 ^ n ≤ 64 := Nat.pow_le_pow_right (n := 2) (by omega) hn
  have hp10 : 0 < 10 ^ n := Nat.pow_pos (by omega)
  have hl10 : 10 ^ n ≤ 10 ^ 6 := Nat.pow_le_pow_right (by omega) hn
  have hge := gl_eq hn hx (wh8_le (c := c) (p := p) (j := j) (t := z))
  refine upto (2 ^ n) (fun s => ∀ (t2 : FI) v8 v9, Run X (d + 5) 0 0 M_Rf_glints 61 [some (.ref 44), some (.int (nI j)), some (.int (nI z)), some (.int (nI n)), some (.int (nI x)), some (.int (bI u)), some (.int (nI (itN (gsF x n (wh8 (whenN c p j z))) 0 s))), some (.int (nI s)), v8, v9] [] (PX f0 ++ hM nu tx ho pi rh rp pg t2 bk kp ik ta tp ga gr va rw) (fun r h2 => r = some (.int R0) ∧ ∃ t2, h2 = PX f0 ++ hM nu tx ho pi rh rp pg t2 bk kp ik ta tp ga gr va rw)) ?_ 0 (Nat.zero_le _) tr none none
  intro s hs ih t2 v8 v9
  have hst : itN (gsF x n (wh8 (whenN c p j z))) 0 (s + 1) = itN (gsF x n (wh8 (whenN c p j z))) 0 s + (if wh8 (whenN c p j z) ≤ manyN s then x ^ manyN s * (10 - x) ^ (n - manyN s) else 0) := rfl
  generalize hA : itN (gsF x n (wh8 (whenN c p j z))) 0 s = A at hst ⊢
  have h160 : s < 2 ^ n → ∀ (t2 : FI) v9, Run X (d + 5) 0 0 M_Rf_glints 160 [some (.ref 44), some (.int (nI j)), some (.int (nI z)), some (.int (nI n)), some (.int (nI x)), some (.int (bI u)), some (.int (nI A)), some (.int (nI s)), some (.int (bI (decide (wh8 (whenN c p j z) ≤ manyN s)))), v9] [] (PX f0 ++ hM nu tx ho pi rh rp pg t2 bk kp ik ta tp ga gr va rw) (fun r h2 => r = some (.int R0) ∧ ∃ t2, h2 = PX f0 ++ hM nu tx ho pi rh rp pg t2 bk kp ik ta tp ga gr va rw) := by
    intro hlt t2 v9
    have hmp := (many_pre n (by omega) s hlt).2
    have ih2 := ih hlt
    rw [hst] at ih2
    by_cases hle : wh8 (whenN c p j z) ≤ manyN s
    · rw [decide_eq_true hle]
      rw [if_pos hle] at ih2
      refine Run.iload d_Rf_glints_160 rfl ?_
      refine Run.S1r d_Rf_glints_162 lk_Rf_195 cm_Rf_many st_Rf_many (Nat.le_of_ble_eq_true rfl) (Nat.le_of_ble_eq_true rfl) (c_Rf_many (by omega)) ?_
      refine Run.istore d_Rf_glints_165 rfl rfl ?_
      show Run _ _ _ _ _ _ [_, _, _, _, _, _, _, _, _, _] _ _ _
      refine Run.iload d_Rf_glints_167 rfl ?_
      refine Run.iload d_Rf_glints_169 rfl ?_
      first | refine Run.if_eq_b d_Rf_glints_171 (fun c171 => ?_) (fun c171 => ?_) | refine Run.if_eq_n d_Rf_glints_171 (by omega) (fun c171 => ?_) (fun c171 => ?_) | refine Run.if_eq d_Rf_glints_171 (fun c171 => ?_) (fun c171 => ?_)
      · cases c171
      · refine Run.iload d_Rf_glints_174 rfl ?_
        refine Run.iload d_Rf_glints_176 rfl ?_
        refine Run.S2r d_Rf_glints_178 lk_Rf_186 cm_Rf_power st_Rf_power (Nat.le_of_ble_eq_true rfl) (Nat.le_of_ble_eq_true rfl) (c_Rf_power (by omega)) ?_
        refine Run.bipush (v := nI 10) d_Rf_glints_181 bp_10 ?_
        refine Run.iload d_Rf_glints_183 rfl ?_
        first | refine Run.isub_n d_Rf_glints_185 (by omega) ?_ | refine Run.isub d_Rf_glints_185 ?_
        refine Run.iload_n d_Rf_glints_186 rfl ?_
        refine Run.iload d_Rf_glints_187 rfl ?_
        first | refine Run.isub_n d_Rf_glints_189 (by omega) ?_ | refine Run.isub d_Rf_glints_189 ?_
        refine Run.S2r d_Rf_glints_190 lk_Rf_186 cm_Rf_power st_Rf_power (Nat.le_of_ble_eq_true rfl) (Nat.le_of_ble_eq_true rfl) (c_Rf_power (by omega)) ?_
        first | refine Run.imul_n d_Rf_glints_193 ?_ | refine Run.imul d_Rf_glints_193 ?_
        refine Run.goto d_Rf_glints_194 ?_
        first | refine Run.iadd_n d_Rf_glints_198 ?_ | refine Run.iadd d_Rf_glints_198 ?_
        refine Run.istore d_Rf_glints_199 rfl rfl ?_
        show Run _ _ _ _ _ _ [_, _, _, _, _, _, _, _, _, _] _ _ _
        first | refine Run.iinc_n d_Rf_glints_201 ic_1 rfl rfl ?_ | refine Run.iinc d_Rf_glints_201 rfl rfl rfl ?_
        show Run _ _ _ _ _ _ [_, _, _, _, _, _, _, _, _, _] _ _ _
        refine Run.goto d_Rf_glints_204 ?_
        exact ih2 t2 _ _
    · rw [decide_eq_false hle]
      rw [if_neg hle] at ih2
      refine Run.iload d_Rf_glints_160 rfl ?_
      refine Run.S1r d_Rf_glints_162 lk_Rf_195 cm_Rf_many st_Rf_many (Nat.le_of_ble_eq_true rfl) (Nat.le_of_ble_eq_true rfl) (c_Rf_many (by omega)) ?_
      refine Run.istore d_Rf_glints_165 rfl rfl ?_
      show Run _ _ _ _ _ _ [_, _, _, _, _, _, _, _, _, _] _ _ _
      refine Run.iload d_Rf_glints_167 rfl ?_
      refine Run.iload d_Rf_glints_169 rfl ?_
      first | refine Run.if_eq_b d_Rf_glints_171 (fun c171 => ?_) (fun c171 => ?_) | refine Run.if_eq_n d_Rf_glints_171 (by omega) (fun c171 => ?_) (fun c171 => ?_) | refine Run.if_eq d_Rf_glints_171 (fun c171 => ?_) (fun c171 => ?_)
      · refine Run.iconst (v := nI 0) d_Rf_glints_197 ic_0 ?_
        first | refine Run.iadd_n d_Rf_glints_198 ?_ | refine Run.iadd d_Rf_glints_198 ?_
        refine Run.istore d_Rf_glints_199 rfl rfl ?_
        show Run _ _ _ _ _ _ [_, _, _, _, _, _, _, _, _, _] _ _ _
        first | refine Run.iinc_n d_Rf_glints_201 ic_1 rfl rfl ?_ | refine Run.iinc d_Rf_glints_201 rfl rfl rfl ?_
        show Run _ _ _ _ _ _ [_, _, _, _, _, _, _, _, _, _] _ _ _
        refine Run.goto d_Rf_glints_204 ?_
        exact ih2 t2 _ _
      · cases c171
  refine Run.iload d_Rf_glints_61 rfl ?_
  refine Run.iconst (v := nI 1) d_Rf_glints_63 ic_1 ?_
  refine Run.iload_n d_Rf_glints_64 rfl ?_
  first | refine Run.ishl_n d_Rf_glints_65 (by omega) (by omega) ?_ | refine Run.ishl d_Rf_glints_65 ?_
  rw [Nat.one_mul]
  first | refine Run.icmp_ge_n d_Rf_glints_66 (by omega) (by omega) (fun c66 => ?_) (fun c66 => ?_) | refine Run.icmp_ge d_Rf_glints_66 (fun c66 => ?_) (fun c66 => ?_)
  · have e8 : s = 2 ^ n := by omega
    rw [e8, hge.1] at hA
    have hA2 := hge.2
    rw [hA] at hA2 hR
    refine Run.iload d_Rf_glints_207 rfl ?_
    refine Run.bipush (v := nI 10) d_Rf_glints_209 bp_10 ?_
    refine Run.iload_n d_Rf_glints_211 rfl ?_
    refine Run.S2r d_Rf_glints_212 lk_Rf_186 cm_Rf_power st_Rf_power (Nat.le_of_ble_eq_true rfl) (Nat.le_of_ble_eq_true rfl) (c_Rf_power (by omega)) ?_
    refine Run.iload d_Rf_glints_215 rfl ?_
    refine Run.S3r d_Rf_glints_217 lk_Rf_213 cm_Rf_fraction st_Rf_fraction (Nat.le_of_ble_eq_true rfl) (Nat.le_of_ble_eq_true rfl) (c_Rf_fraction (by omega) hp10 (by omega)) ?_
    refine Run.iret d_Rf_glints_220 rfl rfl ?_
    exact ⟨by rw [hR], t2, rfl⟩
  · refine Run.aload_n d_Rf_glints_69 rfl ?_
    refine Run.V0 d_Rf_glints_70 lk_Rf_183 cm_Rf_begin iv_Rf_begin rfl (by first | rfl | assumption) (Nat.le_of_ble_eq_true rfl) (Nat.le_of_ble_eq_true rfl) (q_Rf_begin) (fun r70 h70 q70 => ?_)
    obtain ⟨rfl, t3, hb, rfl⟩ := q70
    have hg2 : PgV c p t3 := ⟨fun i hi => by rw [hb i (by omega), hb (6 + i) (by omega)]; exact hg.1 i hi, by rw [hb 12 (by omega)]; exact hg.2.1, by rw [hb 13 (by omega)]; exact hg.2.2⟩
    have hl0 : liN p 0 = p := by
      obtain ⟨a1, a2, l, hh⟩ := p
      have : l < 8 := hp.1
      simp [liN, pgL, pgH]
      omega
    have w1 := seenN_lt hc p j
    have w2 : (seenN c p j).testBit z = (fstN (whenP c p j z) 1).isSome := by
      rw [fst_ss]
      show _ = (false || (seenN c (hourN p 0) j).testBit z)
      rw [hourN_0 hp, Bool.false_or]
    refine Run.aload_n d_Rf_glints_73 rfl ?_
    refine Run.aload_n d_Rf_glints_74 rfl ?_
    refine Run.getf d_Rf_glints_75 fl_Rf_28 (by first | rfl | assumption) (by rfl) ?_
    refine Run.iload_n d_Rf_glints_78 rfl ?_
    refine Run.bipush (v := nI 63) d_Rf_glints_79 bp_63 ?_
    refine Run.V3r d_Rf_glints_81 lk_Rf_135 cm_Rf_seesOf iv_Rf_seesOf rfl (by first | rfl | assumption) (Nat.le_of_ble_eq_true rfl) (Nat.le_of_ble_eq_true rfl) (c_Rf_seesOf hc hp hr.at hg2.a50 (by omega) (by omega)) ?_
    rw [sesN_63 b2]
    refine Run.iload_n d_Rf_glints_84 rfl ?_
    refine Run.S2r d_Rf_glints_85 lk_Rf_127 cm_Rf_has st_Rf_has (Nat.le_of_ble_eq_true rfl) (Nat.le_of_ble_eq_true rfl) (c_Rf_has (by omega) (by omega)) ?_
    rw [w2]
    refine Run.istore d_Rf_glints_88 rfl rfl ?_
    show Run _ _ _ _ _ _ [_, _, _, _, _, _, _, _, _, _] _ _ _
    refine Run.iconst (v := nI 0) d_Rf_glints_90 ic_0 ?_
    refine Run.istore d_Rf_glints_91 rfl rfl ?_
    show Run _ _ _ _ _ _ [_, _, _, _, _, _, _, _, _, _] _ _ _
    exact r_glints93 hc hp hr (by rw [hl0]; exact hg2) hj hz hn c66 (h160 c66)
theorem q_Rf_glints {y t n x : Int32} {u : Bool} (hc : coOK c) (hp : pgOK c p) (hr : RfR c nu.2.2.1 nu.2.2.2.1 ho pi) (hg : PgV c p pg) : Call X (d + 5) 0 0 M_Rf_glints [.ref 44, .int y, .int t, .int n, .int x, .int (bI u)] (PX f0 ++ hM nu tx ho pi rh rp pg tr bk kp ik ta tp ga gr va rw) (fun r h2 => r = some (.int (glintsR c p y t n x u)) ∧ ∃ t2, h2 = PX f0 ++ hM nu tx ho pi rh rp pg t2 bk kp ik ta tp ga gr va rw) := by
  show Run X (d + 5) 0 0 M_Rf_glints 0 [some (.ref 44), some (.int y), some (.int t), some (.int n), some (.int x), some (.int (bI u)), none, none, none, none] [] _ _
  have b1 := hc.1
  refine Run.aload_n d_Rf_glints_0 rfl ?_
  refine Run.iconst (v := nI 0) d_Rf_glints_1 ic_0 ?_
  refine Run.putf d_Rf_glints_2 fl_Rf_59 (fun _ => rfl) (fun _ => rfl) (by first | rfl | assumption) (by exact Nat.le_of_ble_eq_true rfl) ?_
  refine run_hp (show _ = PX f0 ++ hM nu tx ho pi rh rp pg tr bk kp ik ta tp ga gr va rw from rfl) ?_
  refine Run.aload_n d_Rf_glints_5 rfl ?_
  refine Run.iload_n d_Rf_glints_6 rfl ?_
  refine Run.V1r d_Rf_glints_7 lk_Rf_149 cm_Rf_noHolder iv_Rf_noHolder rfl (by first | rfl | assumption) (Nat.le_of_ble_eq_true rfl) (Nat.le_of_ble_eq_true rfl) (c_Rf_noHolder hc hr.at) ?_
  first | refine Run.if_eq_b d_Rf_glints_10 (fun c10 => ?_) (fun c10 => ?_) | refine Run.if_eq_n d_Rf_glints_10 (by omega) (fun c10 => ?_) (fun c10 => ?_) | refine Run.if_eq d_Rf_glints_10 (fun c10 => ?_) (fun c10 => ?_)
  · rw [Bool.not_eq_false'] at c10
    refine Run.iload_n d_Rf_glints_15 rfl ?_
    refine Run.i2l d_Rf_glints_16 ?_
    refine Run.lconst (v := 0) d_Rf_glints_17 rfl ?_
    refine Run.ldc2 d_Rf_glints_18 kn_Rf_175 ?_
    refine Run.S3r d_Rf_glints_21 lk_Rf_66 cm_Rf_in st_Rf_in (Nat.le_of_ble_eq_true rfl) (Nat.le_of_ble_eq_true rfl) (c_Rf_in) ?_
    rw [in_B (n := 5) (by omega) (by decide +kernel)]
    first | refine Run.if_eq_b d_Rf_glints_24 (fun c24 => ?_) (fun c24 => ?_) | refine Run.if_eq_n d_Rf_glints_24 (by omega) (fun c24 => ?_) (fun c24 => ?_) | refine Run.if_eq d_Rf_glints_24 (fun c24 => ?_) (fun c24 => ?_)
    · refine Run.bipush (v := -2) d_Rf_glints_52 bp_m2 ?_
      refine Run.iret d_Rf_glints_54 rfl rfl ?_
      refine ⟨?_, tr, rfl⟩
      first
        | (rw [glintsR, if_pos c10, c24, Bool.false_and, if_neg (by decide)]; done)
        | (rw [glintsR, if_pos c10, c36, Bool.false_and, Bool.and_false, if_neg (by decide)]; done)
        | (rw [glintsR, if_pos c10, c49, Bool.and_false, Bool.and_false, if_neg (by decide)]; done)
    · refine Run.iload_n d_Rf_glints_27 rfl ?_
      refine Run.i2l d_Rf_glints_28 ?_
      refine Run.lconst (v := 1) d_Rf_glints_29 rfl ?_
      refine Run.ldc2 d_Rf_glints_30 kn_Rf_240 ?_
      refine Run.S3r d_Rf_glints_33 lk_Rf_66 cm_Rf_in st_Rf_in (Nat.le_of_ble_eq_true rfl) (Nat.le_of_ble_eq_true rfl) (c_Rf_in) ?_
      rw [in_C (a := 1) (b := 6) (by omega) (by omega) (by decide +kernel) (by decide +kernel)]
      first | refine Run.if_eq_b d_Rf_glints_36 (fun c36 => ?_) (fun c36 => ?_) | refine Run.if_eq_n d_Rf_glints_36 (by omega) (fun c36 => ?_) (fun c36 => ?_) | refine Run.if_eq d_Rf_glints_36 (fun c36 => ?_) (fun c36 => ?_)
      · refine Run.bipush (v := -2) d_Rf_glints_52 bp_m2 ?_
        refine Run.iret d_Rf_glints_54 rfl rfl ?_
        refine ⟨?_, tr, rfl⟩
        first
          | (rw [glintsR, if_pos c10, c24, Bool.false_and, if_neg (by decide)]; done)
          | (rw [glintsR, if_pos c10, c36, Bool.false_and, Bool.and_false, if_neg (by decide)]; done)
          | (rw [glintsR, if_pos c10, c49, Bool.and_false, Bool.and_false, if_neg (by decide)]; done)
      · refine Run.iload d_Rf_glints_39 rfl ?_
        refine Run.i2l d_Rf_glints_41 ?_
        refine Run.lconst (v := 0) d_Rf_glints_42 rfl ?_
        refine Run.ldc2 d_Rf_glints_43 kn_Rf_242 ?_
        refine Run.S3r d_Rf_glints_46 lk_Rf_66 cm_Rf_in st_Rf_in (Nat.le_of_ble_eq_true rfl) (Nat.le_of_ble_eq_true rfl) (c_Rf_in) ?_
        rw [in_C (a := 0) (b := 10) (by omega) (by omega) (by decide +kernel) (by decide +kernel)]
        first | refine Run.if_ne_b d_Rf_glints_49 (fun c49 => ?_) (fun c49 => ?_) | refine Run.if_ne_n d_Rf_glints_49 (by omega) (fun c49 => ?_) (fun c49 => ?_) | refine Run.if_ne d_Rf_glints_49 (fun c49 => ?_) (fun c49 => ?_)
        · have hR : glintsR c p y t n x u = nI (frN (glN (tn x) (tn n) (wh8 (whenN c p (tn y) (tn t)))) (10 ^ tn n) u) := by
            rw [glintsR, if_pos c10, c24, c36, c49]
            rfl
          obtain ⟨j, hj, rfl⟩ := inB_t (by omega) c10
          obtain ⟨zz, hz, rfl⟩ := inB_t (n := 5) (by omega) c24
          obtain ⟨n0, hn1, hn2, rfl⟩ := inC_t (by omega) (by omega) c36
          obtain ⟨x0, -, hx2, rfl⟩ := inC_t (by omega) (by omega) c49
          rw [tn_nI (by omega), tn_nI (by omega), tn_nI (by omega), tn_nI (by omega)] at hR
          refine Run.iconst (v := nI 0) d_Rf_glints_55 ic_0 ?_
          refine Run.istore d_Rf_glints_56 rfl rfl ?_
          show Run _ _ _ _ _ _ [_, _, _, _, _, _, _, _, _, _] _ _ _
          refine Run.iconst (v := nI 0) d_Rf_glints_58 ic_0 ?_
          refine Run.istore d_Rf_glints_59 rfl rfl ?_
          show Run _ _ _ _ _ _ [_, _, _, _, _, _, _, _, _, _] _ _ _
          exact r_glints61 hc hp hr hg hj hz hn2 hx2 hR
        · refine Run.bipush (v := -2) d_Rf_glints_52 bp_m2 ?_
          refine Run.iret d_Rf_glints_54 rfl rfl ?_
          refine ⟨?_, tr, rfl⟩
          first
            | (rw [glintsR, if_pos c10, c24, Bool.false_and, if_neg (by decide)]; done)
            | (rw [glintsR, if_pos c10, c36, Bool.false_and, Bool.and_false, if_neg (by decide)]; done)
            | (rw [glintsR, if_pos c10, c49, Bool.and_false, Bool.and_false, if_neg (by decide)]; done)
  · rw [Bool.not_eq_true'] at c10
    refine Run.iconst (v := -1) d_Rf_glints_13 ic_m1 ?_
    refine Run.iret d_Rf_glints_14 rfl rfl ?_
    exact ⟨by rw [glintsR, if_neg (by rw [c10]; decide)], tr, rfl⟩
end RGLINTS
