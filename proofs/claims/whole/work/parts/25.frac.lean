/-! ===== fractions in least terms; factorials ===== -/
/-- a fraction's upper or lower number in least terms -/
def frN (a b : Nat) (u : Bool) : Nat := (if u = true then a else b) / Nat.gcd a b
theorem eu_half {x y : Nat} (h0 : 0 < y) (h : y ≤ x) : 2 * (x % y) ≤ x := by
  have h1 := Nat.div_add_mod x y
  have h2 : 1 ≤ x / y := Nat.div_pos h h0
  have h3 : y * 1 ≤ y * (x / y) := Nat.mul_le_mul_left y h2
  have h4 := Nat.mod_lt x h0
  omega
theorem eu_gcd (x y : Nat) : Nat.gcd y (x % y) = Nat.gcd x y := by
  rw [Nat.gcd_comm x y, Nat.gcd_rec y x, Nat.gcd_comm]
/-- what is left to do: it halves -/
def euI (b s x y : Nat) : Prop := s = 0 ∧ y = b ∨ 0 < s ∧ y < x ∧ x * y * 2 ^ s ≤ 2 ^ 49
theorem euI_s {b s x y : Nat} (hb : b ≤ 1000000) (h : euI b s x y) (h0 : 0 < y) : euI b (s + 1) y (x % y) := by
  have h4 := Nat.mod_lt x h0
  refine Or.inr ⟨by omega, h4, ?_⟩
  rcases h with ⟨rfl, rfl⟩ | ⟨h1, h2, h3⟩
  · have h5 : y * (x % y) ≤ 1000000 * 1000000 := Nat.mul_le_mul hb (by omega)
    omega
  · have h5 := eu_half h0 (Nat.le_of_lt h2)
    have h6 : y * (2 * (x % y)) ≤ y * x := Nat.mul_le_mul_left y h5
    have h7 : y * (x % y) * 2 ^ (s + 1) = y * (2 * (x % y)) * 2 ^ s := by
      rw [Nat.pow_succ, Nat.mul_comm 2 (x % y), ← Nat.mul_assoc y, Nat.mul_assoc (y * (x % y)), Nat.mul_comm 2 (2 ^ s)]
    rw [h7]
    refine Nat.le_trans (Nat.mul_le_mul_right _ h6) ?_
    rw [Nat.mul_comm y x]
    exact h3
theorem euI_e {b s x y : Nat} (h : euI b s x y) (hs : 50 ≤ s) : y = 0 := by
  rcases h with ⟨h1, -⟩ | ⟨h1, h2, h3⟩
  · omega
  · rcases Nat.eq_zero_or_pos y with h | h
    · exact h
    · exfalso
      have h4 : 1 ≤ x * y := Nat.mul_pos (by omega) h
      have h5 : 2 ^ 50 ≤ 2 ^ s := Nat.pow_le_pow_right (by omega) hs
      have h6 : 1 * 2 ^ 50 ≤ x * y * 2 ^ s := Nat.mul_le_mul h4 h5
      have h7 := Nat.le_trans h6 h3
      exact absurd h7 (by decide)
def faN : Nat → Nat
  | 0 => 1
  | n + 1 => faN n * (n + 1)
section FRAC
variable {X : Nat × (Nat → Int32)} {d : Nat} {h : AH}
theorem c_PM_inLeastTerms {a b : Nat} {u : Bool} (ha : a < 2 ^ 31) (h0 : 0 < b) (hb : b ≤ 1000000) : Call X d 0 0 M_PM_inLeastTerms [.int (nI a), .int (nI b), .int (bI u)] h (Ret (.int (nI (frN a b u))) h) := by
  show Run X d 0 0 M_PM_inLeastTerms 0 [some (.int (nI a)), some (.int (nI b)), some (.int (bI u)), none, none, none, none] [] h _
  have hgp : 0 < Nat.gcd a b := Nat.gcd_pos_of_pos_right a h0
  have h39 : ∀ x v5 v6, x < 2 ^ 31 → x = Nat.gcd a b → Run X d 0 0 M_PM_inLeastTerms 39 [some (.int (nI a)), some (.int (nI b)), some (.int (bI u)), some (.int (nI x)), some (.int (nI 0)), v5, v6] [] h (Ret (.int (nI (frN a b u))) h) := by
    intro x v5 v6 hx hg
    rw [← hg] at hgp
    refine Run.iload_n d_PM_inLeastTerms_39 rfl ?_
    first | refine Run.if_eq_b d_PM_inLeastTerms_40 (fun c40 => ?_) (fun c40 => ?_) | refine Run.if_eq_n d_PM_inLeastTerms_40 (by omega) (fun c40 => ?_) (fun c40 => ?_) | refine Run.if_eq d_PM_inLeastTerms_40 (fun c40 => ?_) (fun c40 => ?_)
    · refine Run.iload_n d_PM_inLeastTerms_47 rfl ?_
      refine Run.istore d_PM_inLeastTerms_48 rfl rfl ?_
      show Run _ _ _ _ _ _ [_, _, _, _, _, _, _] _ _ _
      refine Run.iload_n d_PM_inLeastTerms_50 rfl ?_
      first | refine Run.if_le_n d_PM_inLeastTerms_51 (by omega) (fun c51 => ?_) (fun c51 => ?_) | refine Run.if_le d_PM_inLeastTerms_51 (fun c51 => ?_) (fun c51 => ?_)
      · omega
      · refine Run.iload d_PM_inLeastTerms_54 rfl ?_
        refine Run.iload_n d_PM_inLeastTerms_56 rfl ?_
        first | refine Run.idiv_n d_PM_inLeastTerms_57 (by omega) (by omega) (by omega) ?_ | refine Run.idiv d_PM_inLeastTerms_57 (by decide +kernel) ?_
        refine Run.goto d_PM_inLeastTerms_58 ?_
        refine Run.iret d_PM_inLeastTerms_63 rfl rfl ?_
        exact ret_n (by rw [frN, ← hg, c40]; rfl)
    · refine Run.iload_n d_PM_inLeastTerms_43 rfl ?_
      refine Run.goto d_PM_inLeastTerms_44 ?_
      refine Run.istore d_PM_inLeastTerms_48 rfl rfl ?_
      show Run _ _ _ _ _ _ [_, _, _, _, _, _, _] _ _ _
      refine Run.iload_n d_PM_inLeastTerms_50 rfl ?_
      first | refine Run.if_le_n d_PM_inLeastTerms_51 (by omega) (fun c51 => ?_) (fun c51 => ?_) | refine Run.if_le d_PM_inLeastTerms_51 (fun c51 => ?_) (fun c51 => ?_)
      · omega
      · refine Run.iload d_PM_inLeastTerms_54 rfl ?_
        refine Run.iload_n d_PM_inLeastTerms_56 rfl ?_
        first | refine Run.idiv_n d_PM_inLeastTerms_57 (by omega) (by omega) (by omega) ?_ | refine Run.idiv d_PM_inLeastTerms_57 (by decide +kernel) ?_
        refine Run.goto d_PM_inLeastTerms_58 ?_
        refine Run.iret d_PM_inLeastTerms_63 rfl rfl ?_
        exact ret_n (by rw [frN, ← hg, c40]; rfl)
  refine Run.iload_n d_PM_inLeastTerms_0 rfl ?_
  refine Run.istore_n d_PM_inLeastTerms_1 rfl rfl ?_
  show Run _ _ _ _ _ _ [_, _, _, _, _, _, _] _ _ _
  refine Run.iload_n d_PM_inLeastTerms_2 rfl ?_
  refine Run.istore d_PM_inLeastTerms_3 rfl rfl ?_
  show Run _ _ _ _ _ _ [_, _, _, _, _, _, _] _ _ _
  refine Run.iconst (v := nI 0) d_PM_inLeastTerms_5 ic_0 ?_
  refine Run.istore d_PM_inLeastTerms_6 rfl rfl ?_
  show Run _ _ _ _ _ _ [_, _, _, _, _, _, _] _ _ _
  refine upto 50 (fun s => ∀ (x y : Nat) v6, x < 2 ^ 31 → y < 2 ^ 31 → Nat.gcd x y = Nat.gcd a b → euI b s x y → Run X d 0 0 M_PM_inLeastTerms 8 [some (.int (nI a)), some (.int (nI b)), some (.int (bI u)), some (.int (nI x)), some (.int (nI y)), some (.int (nI s)), v6] [] h (Ret (.int (nI (frN a b u))) h)) ?_ 0 (Nat.zero_le _) a b none ha (by omega) rfl (Or.inl ⟨rfl, rfl⟩)
  intro s hs ih x y v6 hx hy hg hI
  refine Run.iload d_PM_inLeastTerms_8 rfl ?_
  refine Run.bipush (v := nI 50) d_PM_inLeastTerms_10 bp_50 ?_
  first | refine Run.icmp_ge_n d_PM_inLeastTerms_12 (by omega) (by omega) (fun c12 => ?_) (fun c12 => ?_) | refine Run.icmp_ge d_PM_inLeastTerms_12 (fun c12 => ?_) (fun c12 => ?_)
  · first
    | (have e0 := euI_e hI c12
       subst e0
       exact h39 x _ _ hx (by rw [← hg, Nat.gcd_zero_right]))
    | (have e0 : y = 0 := c17
       subst e0
       exact h39 x _ _ hx (by rw [← hg, Nat.gcd_zero_right]))
  · refine Run.iload d_PM_inLeastTerms_15 rfl ?_
    first | refine Run.if_eq_b d_PM_inLeastTerms_17 (fun c17 => ?_) (fun c17 => ?_) | refine Run.if_eq_n d_PM_inLeastTerms_17 (by omega) (fun c17 => ?_) (fun c17 => ?_) | refine Run.if_eq d_PM_inLeastTerms_17 (fun c17 => ?_) (fun c17 => ?_)
    · first
      | (have e0 := euI_e hI c12
         subst e0
         exact h39 x _ _ hx (by rw [← hg, Nat.gcd_zero_right]))
      | (have e0 : y = 0 := c17
         subst e0
         exact h39 x _ _ hx (by rw [← hg, Nat.gcd_zero_right]))
    · have hm := Nat.mod_lt x (show 0 < y by omega)
      refine Run.iload_n d_PM_inLeastTerms_20 rfl ?_
      refine Run.iload d_PM_inLeastTerms_21 rfl ?_
      first | refine Run.irem_n d_PM_inLeastTerms_23 (by omega) (by omega) (by omega) ?_ | refine Run.irem d_PM_inLeastTerms_23 (by decide +kernel) ?_
      refine Run.istore d_PM_inLeastTerms_24 rfl rfl ?_
      show Run _ _ _ _ _ _ [_, _, _, _, _, _, _] _ _ _
      refine Run.iload d_PM_inLeastTerms_26 rfl ?_
      refine Run.istore_n d_PM_inLeastTerms_28 rfl rfl ?_
      show Run _ _ _ _ _ _ [_, _, _, _, _, _, _] _ _ _
      refine Run.iload d_PM_inLeastTerms_29 rfl ?_
      refine Run.istore d_PM_inLeastTerms_31 rfl rfl ?_
      show Run _ _ _ _ _ _ [_, _, _, _, _, _, _] _ _ _
      first | refine Run.iinc_n d_PM_inLeastTerms_33 ic_1 rfl rfl ?_ | refine Run.iinc d_PM_inLeastTerms_33 rfl rfl rfl ?_
      show Run _ _ _ _ _ _ [_, _, _, _, _, _, _] _ _ _
      refine Run.goto d_PM_inLeastTerms_36 ?_
      exact ih c12 y (x % y) _ hy (by omega) (by rw [eu_gcd]; exact hg) (euI_s hb hI (by omega))
theorem c_Rf_divisor {a b : Nat} (ha : a < 2 ^ 31) (hb : b < 2 ^ 31) : Call X d 0 0 M_Rf_divisor [.int (nI a), .int (nI b)] h (Ret (.int (nI (Nat.gcd a b))) h) := by
  show Run X d 0 0 M_Rf_divisor 0 [some (.int (nI a)), some (.int (nI b)), none, none, none] [] h _
  have key : ∀ n x y v4, y ≤ n → x < 2 ^ 31 → y < 2 ^ 31 → Nat.gcd x y = Nat.gcd a b → Run X d 0 0 M_Rf_divisor 13 [some (.int (nI a)), some (.int (nI b)), some (.int (nI x)), some (.int (nI y)), v4] [] h (Ret (.int (nI (Nat.gcd a b))) h) := by
    intro n
    induction n with
    | zero =>
      intro x y v4 hyn hx hy hg
      have e0 : y = 0 := Nat.le_zero.mp hyn
      subst e0
      rw [Nat.gcd_zero_right] at hg
      refine Run.iload_n d_Rf_divisor_13 rfl ?_
      first | refine Run.if_eq_b d_Rf_divisor_14 (fun c14 => ?_) (fun c14 => ?_) | refine Run.if_eq_n d_Rf_divisor_14 (by omega) (fun c14 => ?_) (fun c14 => ?_) | refine Run.if_eq d_Rf_divisor_14 (fun c14 => ?_) (fun c14 => ?_)
      · refine Run.iload_n d_Rf_divisor_30 rfl ?_
        refine Run.iret d_Rf_divisor_31 rfl rfl ?_
        exact ret_n hg
      · exact absurd rfl c14
    | succ n ih =>
      intro x y v4 hyn hx hy hg
      refine Run.iload_n d_Rf_divisor_13 rfl ?_
      first | refine Run.if_eq_b d_Rf_divisor_14 (fun c14 => ?_) (fun c14 => ?_) | refine Run.if_eq_n d_Rf_divisor_14 (by omega) (fun c14 => ?_) (fun c14 => ?_) | refine Run.if_eq d_Rf_divisor_14 (fun c14 => ?_) (fun c14 => ?_)
      · subst c14
        rw [Nat.gcd_zero_right] at hg
        refine Run.iload_n d_Rf_divisor_30 rfl ?_
        refine Run.iret d_Rf_divisor_31 rfl rfl ?_
        exact ret_n hg
      · have hm := Nat.mod_lt x (show 0 < y by omega)
        refine Run.iload_n d_Rf_divisor_17 rfl ?_
        refine Run.iload_n d_Rf_divisor_18 rfl ?_
        first | refine Run.irem_n d_Rf_divisor_19 (by omega) (by omega) (by omega) ?_ | refine Run.irem d_Rf_divisor_19 (by decide +kernel) ?_
        refine Run.istore d_Rf_divisor_20 rfl rfl ?_
        show Run _ _ _ _ _ _ [_, _, _, _, _] _ _ _
        refine Run.iload_n d_Rf_divisor_22 rfl ?_
        refine Run.istore_n d_Rf_divisor_23 rfl rfl ?_
        show Run _ _ _ _ _ _ [_, _, _, _, _] _ _ _
        refine Run.iload d_Rf_divisor_24 rfl ?_
        refine Run.istore_n d_Rf_divisor_26 rfl rfl ?_
        show Run _ _ _ _ _ _ [_, _, _, _, _] _ _ _
        refine Run.goto d_Rf_divisor_27 ?_
        exact ih y (x % y) _ (by omega) hy (by omega) (by rw [eu_gcd]; exact hg)
  refine Run.iload_n d_Rf_divisor_0 rfl ?_
  refine Run.if_ge d_Rf_divisor_1 (fun c1 => ?_) (fun c1 => ?_)
  · refine Run.iload_n d_Rf_divisor_9 rfl ?_
    refine Run.istore_n d_Rf_divisor_10 rfl rfl ?_
    show Run _ _ _ _ _ _ [_, _, _, _, _] _ _ _
    refine Run.iload_n d_Rf_divisor_11 rfl ?_
    refine Run.istore_n d_Rf_divisor_12 rfl rfl ?_
    show Run _ _ _ _ _ _ [_, _, _, _, _] _ _ _
    exact key b a b none (Nat.le_refl _) ha hb rfl
  · exact absurd (nI_pos' ha) c1
theorem c_Rf_fraction {a b : Nat} {u : Bool} (ha : a < 2 ^ 31) (h0 : 0 < b) (hb : b < 2 ^ 31) : Call X (d + 1) 0 0 M_Rf_fraction [.int (nI a), .int (nI b), .int (bI u)] h (Ret (.int (nI (frN a b u))) h) := by
  show Run X (d + 1) 0 0 M_Rf_fraction 0 [some (.int (nI a)), some (.int (nI b)), some (.int (bI u)), none] [] h _
  have hgp : 0 < Nat.gcd a b := Nat.gcd_pos_of_pos_right a h0
  have hgl : Nat.gcd a b ≤ b := Nat.gcd_le_right a h0
  refine Run.iload_n d_Rf_fraction_0 rfl ?_
  refine Run.iload_n d_Rf_fraction_1 rfl ?_
  refine Run.S2r d_Rf_fraction_2 lk_Rf_207 cm_Rf_divisor st_Rf_divisor (Nat.le_of_ble_eq_true rfl) (Nat.le_of_ble_eq_true rfl) (c_Rf_divisor ha hb) ?_
  generalize hG : Nat.gcd a b = G at hgp hgl ⊢
  refine Run.istore_n d_Rf_fraction_5 rfl rfl ?_
  show Run _ _ _ _ _ _ [_, _, _, _] _ _ _
  refine Run.iload_n d_Rf_fraction_6 rfl ?_
  first | refine Run.if_eq_b d_Rf_fraction_7 (fun c7 => ?_) (fun c7 => ?_) | refine Run.if_eq_n d_Rf_fraction_7 (by omega) (fun c7 => ?_) (fun c7 => ?_) | refine Run.if_eq d_Rf_fraction_7 (fun c7 => ?_) (fun c7 => ?_)
  · refine Run.iload_n d_Rf_fraction_16 rfl ?_
    refine Run.iload_n d_Rf_fraction_17 rfl ?_
    first | refine Run.idiv_n d_Rf_fraction_18 (by omega) (by omega) (by omega) ?_ | refine Run.idiv d_Rf_fraction_18 (by decide +kernel) ?_
    refine Run.iret d_Rf_fraction_19 rfl rfl ?_
    exact ret_n (by rw [frN, hG, c7]; rfl)
  · refine Run.iload_n d_Rf_fraction_10 rfl ?_
    refine Run.iload_n d_Rf_fraction_11 rfl ?_
    first | refine Run.idiv_n d_Rf_fraction_12 (by omega) (by omega) (by omega) ?_ | refine Run.idiv d_Rf_fraction_12 (by decide +kernel) ?_
    refine Run.goto d_Rf_fraction_13 ?_
    refine Run.iret d_Rf_fraction_19 rfl rfl ?_
    exact ret_n (by rw [frN, hG, c7]; rfl)
theorem c_Rf_ways {n : Nat} (hn : n < 100) : Call X d 0 0 M_Rf_ways [.int (nI n)] h (Ret (.int (nI (faN n))) h) := by
  show Run X d 0 0 M_Rf_ways 0 [some (.int (nI n)), none, none] [] h _
  refine Run.iconst (v := nI 1) d_Rf_ways_0 ic_1 ?_
  refine Run.istore_n d_Rf_ways_1 rfl rfl ?_
  show Run _ _ _ _ _ _ [_, _, _] _ _ _
  refine Run.iconst (v := nI 2) d_Rf_ways_2 ic_2 ?_
  refine Run.istore_n d_Rf_ways_3 rfl rfl ?_
  show Run _ _ _ _ _ _ [_, _, _] _ _ _
  refine upto (n + 2) (fun i => 2 ≤ i → (i ≤ n + 1 ∨ i = 2) → Run X d 0 0 M_Rf_ways 4 [some (.int (nI n)), some (.int (nI (faN (i - 1)))), some (.int (nI i))] [] h _) ?_ 2 (by omega) (by omega) (by omega)
  intro i hi ih h2 hI
  refine Run.iload_n d_Rf_ways_4 rfl ?_
  refine Run.iload_n d_Rf_ways_5 rfl ?_
  first | refine Run.icmp_gt_n d_Rf_ways_6 (by omega) (by omega) (fun c6 => ?_) (fun c6 => ?_) | refine Run.icmp_gt d_Rf_ways_6 (fun c6 => ?_) (fun c6 => ?_)
  · refine Run.iload_n d_Rf_ways_19 rfl ?_
    refine Run.iret d_Rf_ways_20 rfl rfl ?_
    refine ret_n ?_
    rcases hI with q | q
    · rw [show i - 1 = n by omega]
    · subst q
      rcases (show n = 0 ∨ n = 1 by omega) with e | e <;> rw [e] <;> rfl
  · refine Run.iload_n d_Rf_ways_9 rfl ?_
    refine Run.iload_n d_Rf_ways_10 rfl ?_
    first | refine Run.imul_n d_Rf_ways_11 ?_ | refine Run.imul d_Rf_ways_11 ?_
    refine Run.istore_n d_Rf_ways_12 rfl rfl ?_
    show Run _ _ _ _ _ _ [_, _, _] _ _ _
    first | refine Run.iinc_n d_Rf_ways_13 ic_1 rfl rfl ?_ | refine Run.iinc d_Rf_ways_13 rfl rfl rfl ?_
    show Run _ _ _ _ _ _ [_, _, _] _ _ _
    refine Run.goto d_Rf_ways_16 ?_
    have q1 := ih (by omega) (by omega) (by omega)
    rw [show i + 1 - 1 = (i - 1) + 1 by omega] at q1
    rw [show faN (i - 1 + 1) = faN (i - 1) * i by rw [faN, show i - 1 + 1 = i by omega]] at q1
    exact q1
end FRAC
