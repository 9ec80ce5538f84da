/-! ===== bits counted, the highest bit (Integer) ===== -/
theorem and_split {x y m M : Nat} (hx : x < 256) (hm : m < 256) : (x + 256 * y) &&& (m + 256 * M) = (x &&& m) + 256 * (y &&& M) := by
  have h1 : ((x + 256 * y) &&& (m + 256 * M)) % 2 ^ 8 = x &&& m := by
    rw [Nat.and_mod_two_pow, show (x + 256 * y) % 2 ^ 8 = x by omega, show (m + 256 * M) % 2 ^ 8 = m by omega]
  have h2 : ((x + 256 * y) &&& (m + 256 * M)) / 2 ^ 8 = y &&& M := by
    rw [Nat.and_div_two_pow, show (x + 256 * y) / 2 ^ 8 = y by omega, show (m + 256 * M) / 2 ^ 8 = M by omega]
  omega
def b1N (m i : Nat) : Nat := i - (i / 2 &&& m)
def b2N (m i : Nat) : Nat := (i &&& m) + (i / 4 &&& m)
def b3N (m i : Nat) : Nat := (i + i / 16) &&& m
theorem b1_and : ∀ a, a < 256 → ∀ r, r < 2 → (a / 2 + 128 * r) &&& 85 = a / 2 &&& 85 := by decide +kernel
theorem b2_and : ∀ a, a < 256 → ∀ r, r < 4 → (a / 4 + 64 * r) &&& 51 = a / 4 &&& 51 := by decide +kernel
theorem b1_s {a r M : Nat} (ha : a < 256) : b1N (85 + 256 * M) (a + 256 * r) = b1N 85 a + 256 * b1N M r := by
  have h1 : (a + 256 * r) / 2 = (a / 2 + 128 * (r % 2)) + 256 * (r / 2) := by omega
  have h2 : a / 2 &&& 85 ≤ a / 2 := Nat.and_le_left
  have h3 : r / 2 &&& M ≤ r / 2 := Nat.and_le_left
  rw [b1N, b1N, b1N, h1, and_split (by omega) (by omega), b1_and a ha _ (by omega)]
  omega
theorem b2_s {a r M : Nat} (ha : a < 256) : b2N (51 + 256 * M) (a + 256 * r) = b2N 51 a + 256 * b2N M r := by
  have h1 : (a + 256 * r) / 4 = (a / 4 + 64 * (r % 4)) + 256 * (r / 4) := by omega
  rw [b2N, b2N, b2N, h1, and_split ha (by omega), and_split (by omega) (by omega), b2_and a ha _ (by omega)]
  omega
theorem b3_s {a r M : Nat} (ha : a + a / 16 + 16 * (r % 16) < 256) : b3N (15 + 256 * M) (a + 256 * r) = b3N 15 a + 256 * b3N M r := by
  have h1 : a + 256 * r + (a + 256 * r) / 16 = (a + a / 16 + 16 * (r % 16)) + 256 * (r + r / 16) := by omega
  rw [b3N, b3N, b3N, h1, and_split ha (by omega)]
  have h2 : (a + a / 16 + 16 * (r % 16)) &&& 15 = (a + a / 16) &&& 15 := by
    rw [show (15 : Nat) = 2 ^ 4 - 1 from rfl, Nat.and_two_pow_sub_one_eq_mod, Nat.and_two_pow_sub_one_eq_mod]
    omega
  rw [h2]
/-- one lane -/
theorem lane : ∀ a, a < 256 → b1N 85 a < 256 ∧ b2N 51 (b1N 85 a) ≤ 68 ∧ b2N 51 (b1N 85 a) % 16 ≤ 4 ∧ b3N 15 (b2N 51 (b1N 85 a)) = itN (manyF a) 0 8 ∧ itN (manyF a) 0 8 ≤ 8 := by decide +kernel
def bcJ (i : Nat) : Nat :=
  let k := b3N 252645135 (b2N 858993459 (b1N 1431655765 i))
  (k + k / 256 + (k + k / 256) / 65536) &&& 63
def bcN (i : Nat) : Nat := itN (manyF i) 0 24
theorem many_sh (i k : Nat) : ∀ n, itN (manyF i) 0 (k + n) = itN (manyF i) 0 k + itN (manyF (i / 2 ^ k)) 0 n := by
  intro n
  induction n with
  | zero => rfl
  | succ n ih =>
    show itN (manyF i) 0 (k + n) + (i / 2 ^ (k + n) &&& 1) = itN (manyF i) 0 k + (itN (manyF (i / 2 ^ k)) 0 n + (i / 2 ^ k / 2 ^ n &&& 1))
    rw [ih, Nat.div_div_eq_div_mul, ← Nat.pow_add, Nat.add_assoc]
theorem many_md (i : Nat) : itN (manyF (i % 256)) 0 8 = itN (manyF i) 0 8 := itN_congr _ (fun k x hk => by
  show x + (i % 2 ^ 8 / 2 ^ k &&& 1) = x + (i / 2 ^ k &&& 1)
  rw [bit_and, bit_and, Nat.testBit_mod_two_pow, decide_eq_true hk, Bool.true_and])
theorem many_8 (i : Nat) : itN (manyF i) 0 24 = itN (manyF (i % 256)) 0 8 + itN (manyF (i / 256 % 256)) 0 8 + itN (manyF (i / 65536 % 256)) 0 8 := by
  rw [many_md, many_md, many_md, show 24 = 16 + 8 from rfl, many_sh i 16 8, show 16 = 8 + 8 from rfl, many_sh i 8 8]
theorem bc_eq {i : Nat} (hi : i < 2 ^ 24) : bcJ i = bcN i := by
  obtain ⟨a, b, e, ha, hb, he, rfl⟩ : ∃ a b e, a < 256 ∧ b < 256 ∧ e < 256 ∧ i = a + 256 * (b + 256 * e) := ⟨i % 256, i / 256 % 256, i / 65536, by omega, by omega, by omega, by omega⟩
  have la := lane a ha
  have lb := lane b hb
  have le := lane e he
  have s1 : b1N 1431655765 (a + 256 * (b + 256 * e)) = b1N 85 a + 256 * (b1N 85 b + 256 * b1N 85 e) := by
    rw [show (1431655765 : Nat) = 85 + 256 * 5592405 from rfl, b1_s ha, show (5592405 : Nat) = 85 + 256 * 21845 from rfl, b1_s hb, show (21845 : Nat) = 85 + 256 * 85 from rfl, show b1N (85 + 256 * 85) e = b1N (85 + 256 * 85) (e + 256 * 0) from rfl, b1_s he]
    rfl
  have s2 : b2N 858993459 (b1N 1431655765 (a + 256 * (b + 256 * e))) = b2N 51 (b1N 85 a) + 256 * (b2N 51 (b1N 85 b) + 256 * b2N 51 (b1N 85 e)) := by
    rw [s1, show (858993459 : Nat) = 51 + 256 * 3355443 from rfl, b2_s la.1, show (3355443 : Nat) = 51 + 256 * 13107 from rfl, b2_s lb.1, show (13107 : Nat) = 51 + 256 * 51 from rfl, show b2N (51 + 256 * 51) (b1N 85 e) = b2N (51 + 256 * 51) (b1N 85 e + 256 * 0) from rfl, b2_s le.1]
    rfl
  have s3 : b3N 252645135 (b2N 858993459 (b1N 1431655765 (a + 256 * (b + 256 * e)))) = b3N 15 (b2N 51 (b1N 85 a)) + 256 * (b3N 15 (b2N 51 (b1N 85 b)) + 256 * b3N 15 (b2N 51 (b1N 85 e))) := by
    rw [s2]
    generalize b2N 51 (b1N 85 a) = A at la ⊢
    generalize b2N 51 (b1N 85 b) = B at lb ⊢
    generalize b2N 51 (b1N 85 e) = E at le ⊢
    rw [show (252645135 : Nat) = 15 + 256 * 986895 from rfl, b3_s (by omega), show (986895 : Nat) = 15 + 256 * 3855 from rfl, b3_s (by omega), show (3855 : Nat) = 15 + 256 * 15 from rfl, show b3N (15 + 256 * 15) E = b3N (15 + 256 * 15) (E + 256 * 0) from rfl, b3_s (by omega)]
    rfl
  rw [bcN, many_8, show (a + 256 * (b + 256 * e)) % 256 = a by omega, show (a + 256 * (b + 256 * e)) / 256 % 256 = b by omega, show (a + 256 * (b + 256 * e)) / 65536 % 256 = e by omega]
  show (b3N 252645135 (b2N 858993459 (b1N 1431655765 (a + 256 * (b + 256 * e)))) + b3N 252645135 (b2N 858993459 (b1N 1431655765 (a + 256 * (b + 256 * e)))) / 256 + (b3N 252645135 (b2N 858993459 (b1N 1431655765 (a + 256 * (b + 256 * e)))) + b3N 252645135 (b2N 858993459 (b1N 1431655765 (a + 256 * (b + 256 * e)))) / 256) / 65536) &&& 63 = _
  rw [s3, la.2.2.2.1, lb.2.2.2.1, le.2.2.2.1, show (63 : Nat) = 2 ^ 6 - 1 from rfl, Nat.and_two_pow_sub_one_eq_mod]
  have w1 := la.2.2.2.2
  have w2 := lb.2.2.2.2
  have w3 := le.2.2.2.2
  clear s1 s2 s3 la lb le
  generalize itN (manyF a) 0 8 = A at *
  generalize itN (manyF b) 0 8 = B at *
  generalize itN (manyF e) 0 8 = E at *
  have d1 : (A + 256 * (B + 256 * E)) / 256 = B + 256 * E := by omega
  have d2 : (A + 256 * (B + 256 * E) + (B + 256 * E)) / 65536 = E := by omega
  rw [d1, d2]
  omega
def nlzN (i : Nat) : Nat := if i < 16 then (if i < 4 then 31 - i / 2 ^ 1 else 29 - i / 2 ^ 2 / 2 ^ 1) else (if i / 2 ^ 4 < 4 then 27 - i / 2 ^ 4 / 2 ^ 1 else 25 - i / 2 ^ 4 / 2 ^ 2 / 2 ^ 1)
def hbN (i : Nat) : Nat := 31 - nlzN i
theorem hb_ok : ∀ i, i < 64 → 0 < i → nlzN i ≤ 31 ∧ hbN i < 6 ∧ 2 ^ hbN i ≤ i ∧ i < 2 ^ (hbN i + 1) := by decide +kernel
section BITS
variable {X : Nat × (Nat → Int32)} {d : Nat} {h : AH}
theorem c_In_bitCount {i : Nat} (hi : i < 2 ^ 24) : Call X d 0 0 M_In_bitCount [.int (nI i)] h (Ret (.int (nI (bcN i))) h) := by
  show Run X d 0 0 M_In_bitCount 0 [some (.int (nI i))] [] h _
  rw [← bc_eq hi]
  have a1 : i / 2 ^ 1 &&& 1431655765 ≤ i / 2 ^ 1 := Nat.and_le_left
  have hb : bcJ i = (b3N 252645135 (b2N 858993459 (b1N 1431655765 i)) + b3N 252645135 (b2N 858993459 (b1N 1431655765 i)) / 256 + (b3N 252645135 (b2N 858993459 (b1N 1431655765 i)) + b3N 252645135 (b2N 858993459 (b1N 1431655765 i)) / 256) / 65536) &&& 63 := rfl
  have e1 : i - (i / 2 ^ 1 &&& 1431655765) = b1N 1431655765 i := rfl
  have l1 : b1N 1431655765 i < 2 ^ 24 := by rw [← e1]; omega
  generalize b1N 1431655765 i = i1 at hb e1 l1
  have e2 : (i1 &&& 858993459) + (i1 / 2 ^ 2 &&& 858993459) = b2N 858993459 i1 := rfl
  have l2 : b2N 858993459 i1 < 2 ^ 25 := by
    have a2 : i1 &&& 858993459 ≤ i1 := Nat.and_le_left
    have a3 : i1 / 2 ^ 2 &&& 858993459 ≤ i1 / 2 ^ 2 := Nat.and_le_left
    rw [← e2]
    omega
  generalize b2N 858993459 i1 = i2 at hb e2 l2
  have e3 : (i2 + i2 / 2 ^ 4) &&& 252645135 = b3N 252645135 i2 := rfl
  have l3 : b3N 252645135 i2 < 2 ^ 26 := by
    have a2 : (i2 + i2 / 2 ^ 4) &&& 252645135 ≤ i2 + i2 / 2 ^ 4 := Nat.and_le_left
    rw [← e3]
    omega
  generalize b3N 252645135 i2 = i3 at hb e3 l3
  refine Run.iload_n d_In_bitCount_0 rfl ?_
  refine Run.iload_n d_In_bitCount_1 rfl ?_
  refine Run.iconst (v := nI 1) d_In_bitCount_2 ic_1 ?_
  refine Run.iushr d_In_bitCount_3 ?_
  rw [pk_ushrN (by omega) (nI 1) 1 (by decide +kernel)]
  refine Run.ldcw d_In_bitCount_4 kn_In_265 ?_
  rw [show (1431655765 : Int32) = nI 1431655765 from by decide +kernel]
  first | refine Run.iand_n d_In_bitCount_7 ?_ | refine Run.iand d_In_bitCount_7 ?_
  first | refine Run.isub_n d_In_bitCount_8 (by omega) ?_ | refine Run.isub d_In_bitCount_8 ?_
  rw [e1]
  refine Run.istore_n d_In_bitCount_9 rfl rfl ?_
  show Run _ _ _ _ _ _ [_] _ _ _
  refine Run.iload_n d_In_bitCount_10 rfl ?_
  refine Run.ldcw d_In_bitCount_11 kn_In_266 ?_
  rw [show (858993459 : Int32) = nI 858993459 from by decide +kernel]
  first | refine Run.iand_n d_In_bitCount_14 ?_ | refine Run.iand d_In_bitCount_14 ?_
  refine Run.iload_n d_In_bitCount_15 rfl ?_
  refine Run.iconst (v := nI 2) d_In_bitCount_16 ic_2 ?_
  refine Run.iushr d_In_bitCount_17 ?_
  rw [pk_ushrN (by omega) (nI 2) 2 (by decide +kernel)]
  refine Run.ldcw d_In_bitCount_18 kn_In_266 ?_
  rw [show (858993459 : Int32) = nI 858993459 from by decide +kernel]
  first | refine Run.iand_n d_In_bitCount_21 ?_ | refine Run.iand d_In_bitCount_21 ?_
  first | refine Run.iadd_n d_In_bitCount_22 ?_ | refine Run.iadd d_In_bitCount_22 ?_
  rw [e2]
  refine Run.istore_n d_In_bitCount_23 rfl rfl ?_
  show Run _ _ _ _ _ _ [_] _ _ _
  refine Run.iload_n d_In_bitCount_24 rfl ?_
  refine Run.iload_n d_In_bitCount_25 rfl ?_
  refine Run.iconst (v := nI 4) d_In_bitCount_26 ic_4 ?_
  refine Run.iushr d_In_bitCount_27 ?_
  rw [pk_ushrN (by omega) (nI 4) 4 (by decide +kernel)]
  first | refine Run.iadd_n d_In_bitCount_28 ?_ | refine Run.iadd d_In_bitCount_28 ?_
  refine Run.ldcw d_In_bitCount_29 kn_In_267 ?_
  rw [show (252645135 : Int32) = nI 252645135 from by decide +kernel]
  first | refine Run.iand_n d_In_bitCount_32 ?_ | refine Run.iand d_In_bitCount_32 ?_
  rw [e3]
  refine Run.istore_n d_In_bitCount_33 rfl rfl ?_
  show Run _ _ _ _ _ _ [_] _ _ _
  refine Run.iload_n d_In_bitCount_34 rfl ?_
  refine Run.iload_n d_In_bitCount_35 rfl ?_
  refine Run.bipush (v := nI 8) d_In_bitCount_36 bp_8 ?_
  refine Run.iushr d_In_bitCount_38 ?_
  rw [pk_ushrN (by omega) (nI 8) 8 (by decide +kernel)]
  first | refine Run.iadd_n d_In_bitCount_39 ?_ | refine Run.iadd d_In_bitCount_39 ?_
  refine Run.istore_n d_In_bitCount_40 rfl rfl ?_
  show Run _ _ _ _ _ _ [_] _ _ _
  refine Run.iload_n d_In_bitCount_41 rfl ?_
  refine Run.iload_n d_In_bitCount_42 rfl ?_
  refine Run.bipush (v := nI 16) d_In_bitCount_43 bp_16 ?_
  refine Run.iushr d_In_bitCount_45 ?_
  rw [pk_ushrN (by omega) (nI 16) 16 (by decide +kernel)]
  first | refine Run.iadd_n d_In_bitCount_46 ?_ | refine Run.iadd d_In_bitCount_46 ?_
  refine Run.istore_n d_In_bitCount_47 rfl rfl ?_
  show Run _ _ _ _ _ _ [_] _ _ _
  refine Run.iload_n d_In_bitCount_48 rfl ?_
  refine Run.bipush (v := nI 63) d_In_bitCount_49 bp_63 ?_
  first | refine Run.iand_n d_In_bitCount_51 ?_ | refine Run.iand d_In_bitCount_51 ?_
  refine Run.iret d_In_bitCount_52 rfl rfl ?_
  exact ret_n (by rw [hb])
theorem c_In_nlz {i : Nat} (hi : i < 64) (h0 : 0 < i) : Call X d 0 0 M_In_numberOfLeadingZeros [.int (nI i)] h (Ret (.int (nI (nlzN i))) h) := by
  show Run X d 0 0 M_In_numberOfLeadingZeros 0 [some (.int (nI i)), none] [] h _
  refine Run.iload_n d_In_numberOfLeadingZeros_0 rfl ?_
  first | refine Run.if_gt_n d_In_numberOfLeadingZeros_1 (by omega) (fun c1 => ?_) (fun c1 => ?_) | refine Run.if_gt d_In_numberOfLeadingZeros_1 (fun c1 => ?_) (fun c1 => ?_)
  · refine Run.bipush (v := nI 31) d_In_numberOfLeadingZeros_15 bp_31 ?_
    refine Run.istore_n d_In_numberOfLeadingZeros_17 rfl rfl ?_
    show Run _ _ _ _ _ _ [_, _] _ _ _
    refine Run.iload_n d_In_numberOfLeadingZeros_18 rfl ?_
    refine Run.ldcw d_In_numberOfLeadingZeros_19 kn_In_264 ?_
    rw [show (65536 : Int32) = nI 65536 from by decide +kernel]
    first | refine Run.icmp_lt_n d_In_numberOfLeadingZeros_22 (by omega) (by omega) (fun c22 => ?_) (fun c22 => ?_) | refine Run.icmp_lt d_In_numberOfLeadingZeros_22 (fun c22 => ?_) (fun c22 => ?_)
    · refine Run.iload_n d_In_numberOfLeadingZeros_33 rfl ?_
      refine Run.sipush (v := nI 256) d_In_numberOfLeadingZeros_34 sp_256 ?_
      first | refine Run.icmp_lt_n d_In_numberOfLeadingZeros_37 (by omega) (by omega) (fun c37 => ?_) (fun c37 => ?_) | refine Run.icmp_lt d_In_numberOfLeadingZeros_37 (fun c37 => ?_) (fun c37 => ?_)
      · refine Run.iload_n d_In_numberOfLeadingZeros_48 rfl ?_
        refine Run.bipush (v := nI 16) d_In_numberOfLeadingZeros_49 bp_16 ?_
        first | refine Run.icmp_lt_n d_In_numberOfLeadingZeros_51 (by omega) (by omega) (fun c51 => ?_) (fun c51 => ?_) | refine Run.icmp_lt d_In_numberOfLeadingZeros_51 (fun c51 => ?_) (fun c51 => ?_)
        · refine Run.iload_n d_In_numberOfLeadingZeros_61 rfl ?_
          refine Run.iconst (v := nI 4) d_In_numberOfLeadingZeros_62 ic_4 ?_
          first | refine Run.icmp_lt_n d_In_numberOfLeadingZeros_63 (by omega) (by omega) (fun c63 => ?_) (fun c63 => ?_) | refine Run.icmp_lt d_In_numberOfLeadingZeros_63 (fun c63 => ?_) (fun c63 => ?_)
          · refine Run.iload_n d_In_numberOfLeadingZeros_73 rfl ?_
            refine Run.iload_n d_In_numberOfLeadingZeros_74 rfl ?_
            refine Run.iconst (v := nI 1) d_In_numberOfLeadingZeros_75 ic_1 ?_
            refine Run.iushr d_In_numberOfLeadingZeros_76 ?_
            rw [pk_ushrN (by omega) (nI 1) 1 (by decide +kernel)]
            first | refine Run.isub_n d_In_numberOfLeadingZeros_77 (by omega) ?_ | refine Run.isub d_In_numberOfLeadingZeros_77 ?_
            refine Run.iret d_In_numberOfLeadingZeros_78 rfl rfl ?_
            refine ret_n ?_
            unfold nlzN
            repeat' (first | omega | split)
          · first | refine Run.iinc (v := nI 25) d_In_numberOfLeadingZeros_66 rfl (by decide +kernel) rfl ?_ | refine Run.iinc (v := nI 29) d_In_numberOfLeadingZeros_66 rfl (by decide +kernel) rfl ?_
            show Run _ _ _ _ _ _ [_, _] _ _ _
            refine Run.iload_n d_In_numberOfLeadingZeros_69 rfl ?_
            refine Run.iconst (v := nI 2) d_In_numberOfLeadingZeros_70 ic_2 ?_
            refine Run.iushr d_In_numberOfLeadingZeros_71 ?_
            rw [pk_ushrN (by omega) (nI 2) 2 (by decide +kernel)]
            refine Run.istore_n d_In_numberOfLeadingZeros_72 rfl rfl ?_
            show Run _ _ _ _ _ _ [_, _] _ _ _
            refine Run.iload_n d_In_numberOfLeadingZeros_73 rfl ?_
            refine Run.iload_n d_In_numberOfLeadingZeros_74 rfl ?_
            refine Run.iconst (v := nI 1) d_In_numberOfLeadingZeros_75 ic_1 ?_
            refine Run.iushr d_In_numberOfLeadingZeros_76 ?_
            rw [pk_ushrN (by omega) (nI 1) 1 (by decide +kernel)]
            first | refine Run.isub_n d_In_numberOfLeadingZeros_77 (by omega) ?_ | refine Run.isub d_In_numberOfLeadingZeros_77 ?_
            refine Run.iret d_In_numberOfLeadingZeros_78 rfl rfl ?_
            refine ret_n ?_
            unfold nlzN
            repeat' (first | omega | split)
        · refine Run.iinc (v := nI 27) d_In_numberOfLeadingZeros_54 rfl (by decide +kernel) rfl ?_
          show Run _ _ _ _ _ _ [_, _] _ _ _
          refine Run.iload_n d_In_numberOfLeadingZeros_57 rfl ?_
          refine Run.iconst (v := nI 4) d_In_numberOfLeadingZeros_58 ic_4 ?_
          refine Run.iushr d_In_numberOfLeadingZeros_59 ?_
          rw [pk_ushrN (by omega) (nI 4) 4 (by decide +kernel)]
          refine Run.istore_n d_In_numberOfLeadingZeros_60 rfl rfl ?_
          show Run _ _ _ _ _ _ [_, _] _ _ _
          refine Run.iload_n d_In_numberOfLeadingZeros_61 rfl ?_
          refine Run.iconst (v := nI 4) d_In_numberOfLeadingZeros_62 ic_4 ?_
          first | refine Run.icmp_lt_n d_In_numberOfLeadingZeros_63 (by omega) (by omega) (fun c63 => ?_) (fun c63 => ?_) | refine Run.icmp_lt d_In_numberOfLeadingZeros_63 (fun c63 => ?_) (fun c63 => ?_)
          · refine Run.iload_n d_In_numberOfLeadingZeros_73 rfl ?_
            refine Run.iload_n d_In_numberOfLeadingZeros_74 rfl ?_
            refine Run.iconst (v := nI 1) d_In_numberOfLeadingZeros_75 ic_1 ?_
            refine Run.iushr d_In_numberOfLeadingZeros_76 ?_
            rw [pk_ushrN (by omega) (nI 1) 1 (by decide +kernel)]
            first | refine Run.isub_n d_In_numberOfLeadingZeros_77 (by omega) ?_ | refine Run.isub d_In_numberOfLeadingZeros_77 ?_
            refine Run.iret d_In_numberOfLeadingZeros_78 rfl rfl ?_
            refine ret_n ?_
            unfold nlzN
            repeat' (first | omega | split)
          · first | refine Run.iinc (v := nI 25) d_In_numberOfLeadingZeros_66 rfl (by decide +kernel) rfl ?_ | refine Run.iinc (v := nI 29) d_In_numberOfLeadingZeros_66 rfl (by decide +kernel) rfl ?_
            show Run _ _ _ _ _ _ [_, _] _ _ _
            refine Run.iload_n d_In_numberOfLeadingZeros_69 rfl ?_
            refine Run.iconst (v := nI 2) d_In_numberOfLeadingZeros_70 ic_2 ?_
            refine Run.iushr d_In_numberOfLeadingZeros_71 ?_
            rw [pk_ushrN (by omega) (nI 2) 2 (by decide +kernel)]
            refine Run.istore_n d_In_numberOfLeadingZeros_72 rfl rfl ?_
            show Run _ _ _ _ _ _ [_, _] _ _ _
            refine Run.iload_n d_In_numberOfLeadingZeros_73 rfl ?_
            refine Run.iload_n d_In_numberOfLeadingZeros_74 rfl ?_
            refine Run.iconst (v := nI 1) d_In_numberOfLeadingZeros_75 ic_1 ?_
            refine Run.iushr d_In_numberOfLeadingZeros_76 ?_
            rw [pk_ushrN (by omega) (nI 1) 1 (by decide +kernel)]
            first | refine Run.isub_n d_In_numberOfLeadingZeros_77 (by omega) ?_ | refine Run.isub d_In_numberOfLeadingZeros_77 ?_
            refine Run.iret d_In_numberOfLeadingZeros_78 rfl rfl ?_
            refine ret_n ?_
            unfold nlzN
            repeat' (first | omega | split)
      · omega
    · omega
  · omega
end BITS
