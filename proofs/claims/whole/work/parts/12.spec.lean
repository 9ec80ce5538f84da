/-! ===== what is seen, in numbers ===== -/
def m8 (x : Int32) : Nat := x.toBitVec.toNat % 8
theorem m8_and (x : Int32) : x &&& nI 7 = nI (m8 x) := pk_and x 3 (by decide +kernel)
theorem m8_lt (x : Int32) : m8 x < 8 := Nat.mod_lt _ (by omega)
theorem m8_nI (a : Nat) : m8 (nI a) = a % 8 := by
  show (BitVec.ofNat 32 a).toNat % 8 = _
  rw [BitVec.toNat_ofNat]
  omega
theorem m8_add (x y : Int32) : m8 (x + y) = (m8 x + m8 y) % 8 := by
  simp only [m8, Int32.toBitVec_add, BitVec.toNat_add]
  omega
theorem m8_sub (x y : Int32) : m8 (x - y) = (m8 x + 8 - m8 y) % 8 := by
  simp only [m8, Int32.toBitVec_sub, BitVec.toNat_sub]
  have := y.toBitVec.isLt
  omega
theorem m8_neg (x : Int32) : m8 (-x) = (8 - m8 x) % 8 := by
  simp only [m8, Int32.toBitVec_neg, BitVec.toNat_neg]
  have := x.toBitVec.isLt
  omega
/-- how far two angles are apart -/
def ap (a o : Nat) : Nat := if 8 - (a + 8 - o) % 8 < (a + 8 - o) % 8 then 8 - (a + 8 - o) % 8 else (a + 8 - o) % 8
def rc (k : Nat) : Nat := if k = 1 then 0 else if k = 3 then 2 else 1
/-- a piece (part, own angle, kind) to one of a kind, at an angle -/
def showN (p o k q a : Nat) : Bool :=
  if q = 3 then false else if q = 2 ∧ p = 2 then true else
    decide (ap a (o % 8) ≤ rc k + (if q = 1 then 1 else 0)) || (decide (k = 2) && decide (ap a ((o + 4) % 8) ≤ rc k + (if q = 1 then 1 else 0)))
theorem ret_t {b : Bool} {h : AH} (hb : b = true) : Ret (.int (bI b)) h (some (.int (nI 1))) h := ⟨by rw [hb, bI_1], rfl⟩
theorem ret_f {b : Bool} {h : AH} (hb : b = false) : Ret (.int (bI b)) h (some (.int (nI 0))) h := ⟨by rw [hb, bI_0], rfl⟩
theorem ret_b {a b : Bool} {h : AH} (hb : a = b) : Ret (.int (bI b)) h (some (.int (bI a))) h := ⟨by rw [hb], rfl⟩
theorem ret_n {a b : Nat} {h : AH} (hb : a = b) : Ret (.int (nI b)) h (some (.int (nI a))) h := ⟨by rw [hb], rfl⟩
theorem ret_i {a b : Int32} {h : AH} (hb : a = b) : Ret (.int b) h (some (.int a)) h := ⟨by rw [hb], rfl⟩
section LEAF
variable {X : Nat × (Nat → Int32)} {d : Nat} {h : AH}
/-- figure >= 0 && figure < limit -/
theorem c_PM_isBelow {x y : Int32} : Call X d 0 0 M_PM_isBelow [.int x, .int y] h (Ret (.int (bI (decide (0 ≤ x) && decide (x < y)))) h) := by
  show Run X d 0 0 M_PM_isBelow 0 [some (.int x), some (.int y)] [] h _
  refine Run.iload_n d_PM_isBelow_0 rfl ?_
  refine Run.if_lt d_PM_isBelow_1 (fun c1 => ?_) (fun c1 => ?_)
  · refine Run.iconst (v := nI 0) d_PM_isBelow_13 ic_0 ?_
    refine Run.iret d_PM_isBelow_14 rfl (by first | exact bI_nar _ | decide +kernel) ?_
    first | exact ret_t (by simp_all) | exact ret_f (by rw [decide_eq_false (Int32.not_le.mpr c1), Bool.false_and]) | exact ret_f (by simp_all)
  · refine Run.iload_n d_PM_isBelow_4 rfl ?_
    refine Run.iload_n d_PM_isBelow_5 rfl ?_
    first | refine Run.icmp_ge_n d_PM_isBelow_6 (by omega) (by omega) (fun c6 => ?_) (fun c6 => ?_) | refine Run.icmp_ge d_PM_isBelow_6 (fun c6 => ?_) (fun c6 => ?_)
    · refine Run.iconst (v := nI 0) d_PM_isBelow_13 ic_0 ?_
      refine Run.iret d_PM_isBelow_14 rfl (by first | exact bI_nar _ | decide +kernel) ?_
      first | exact ret_t (by simp_all) | exact ret_f (by rw [decide_eq_false (Int32.not_le.mpr c1), Bool.false_and]) | exact ret_f (by simp_all)
    · refine Run.iconst (v := nI 1) d_PM_isBelow_9 ic_1 ?_
      refine Run.goto d_PM_isBelow_10 ?_
      refine Run.iret d_PM_isBelow_14 rfl (by first | exact bI_nar _ | decide +kernel) ?_
      first | exact ret_t (by simp_all) | exact ret_f (by rw [decide_eq_false (Int32.not_le.mpr c1), Bool.false_and]) | exact ret_f (by simp_all)
theorem c_PM_hasBit {a b : Nat} (hb : b < 32) (ha : a < 2 ^ 31) : Call X d 0 0 M_PM_hasBit [.int (nI a), .int (nI b)] h (Ret (.int (bI (a.testBit b))) h) := by
  show Run X d 0 0 M_PM_hasBit 0 [some (.int (nI a)), some (.int (nI b))] [] h _
  have e1 : a / 2 ^ b &&& 1 = (a.testBit b).toNat := by
    rw [Nat.testBit_eq_decide_div_mod_eq, Nat.and_one_is_mod]
    have : a / 2 ^ b % 2 = 0 ∨ a / 2 ^ b % 2 = 1 := by omega
    rcases this with q | q <;> simp [q]
  refine Run.iload_n d_PM_hasBit_0 rfl ?_
  refine Run.iload_n d_PM_hasBit_1 rfl ?_
  first | refine Run.ishr_n d_PM_hasBit_2 (by omega) (by omega) ?_ | refine Run.ishr d_PM_hasBit_2 ?_
  refine Run.iconst (v := nI 1) d_PM_hasBit_3 ic_1 ?_
  first | refine Run.iand_n d_PM_hasBit_4 ?_ | refine Run.iand d_PM_hasBit_4 ?_
  refine Run.iconst (v := nI 1) d_PM_hasBit_5 ic_1 ?_
  have e2 : a / 2 ^ b &&& 1 < 2 := by rw [e1]; cases a.testBit b <;> decide
  first | refine Run.icmp_ne_n d_PM_hasBit_6 (by omega) (by omega) (fun c6 => ?_) (fun c6 => ?_) | refine Run.icmp_ne d_PM_hasBit_6 (fun c6 => ?_) (fun c6 => ?_)
  · refine Run.iconst (v := nI 0) d_PM_hasBit_13 ic_0 ?_
    refine Run.iret d_PM_hasBit_14 rfl (by first | exact bI_nar _ | decide +kernel) ?_
    first | exact ret_t (by revert c6; rw [e1]; cases a.testBit b <;> simp) | exact ret_f (by revert c6; rw [e1]; cases a.testBit b <;> simp)
  · refine Run.iconst (v := nI 1) d_PM_hasBit_9 ic_1 ?_
    refine Run.goto d_PM_hasBit_10 ?_
    refine Run.iret d_PM_hasBit_14 rfl (by first | exact bI_nar _ | decide +kernel) ?_
    first | exact ret_t (by revert c6; rw [e1]; cases a.testBit b <;> simp) | exact ret_f (by revert c6; rw [e1]; cases a.testBit b <;> simp)
theorem c_PM_byEight {x : Int32} : Call X d 0 0 M_PM_byEight [.int x] h (Ret (.int (nI (m8 x))) h) := by
  show Run X d 0 0 M_PM_byEight 0 [some (.int x)] [] h _
  refine Run.iload_n d_PM_byEight_0 rfl ?_
  refine Run.bipush (v := nI 7) d_PM_byEight_1 bp_7 ?_
  first | refine Run.iand_n d_PM_byEight_3 ?_ | refine Run.iand d_PM_byEight_3 ?_
  refine Run.iret d_PM_byEight_4 rfl rfl ?_
  exact ret_i (m8_and x)
theorem c_PM_apart {x y : Int32} : Call X (d + 1) 0 0 M_PM_apart [.int x, .int y] h (Ret (.int (nI (ap (m8 x) (m8 y)))) h) := by
  show Run X (d + 1) 0 0 M_PM_apart 0 [some (.int x), some (.int y), none] [] h _
  have e1 := m8_lt (x - y)
  refine Run.iload_n d_PM_apart_0 rfl ?_
  refine Run.iload_n d_PM_apart_1 rfl ?_
  first | refine Run.isub_n d_PM_apart_2 (by omega) ?_ | refine Run.isub d_PM_apart_2 ?_
  refine Run.S1r d_PM_apart_3 lk_PM_273 cm_PM_byEight st_PM_byEight (Nat.le_of_ble_eq_true rfl) (Nat.le_of_ble_eq_true rfl) (c_PM_byEight) ?_
  refine Run.istore_n d_PM_apart_6 rfl rfl ?_
  show Run _ _ _ _ _ _ [_, _, _] _ _ _
  refine Run.iload_n d_PM_apart_7 rfl ?_
  refine Run.bipush (v := nI 8) d_PM_apart_8 bp_8 ?_
  refine Run.iload_n d_PM_apart_10 rfl ?_
  first | refine Run.isub_n d_PM_apart_11 (by omega) ?_ | refine Run.isub d_PM_apart_11 ?_
  refine Run.mmin d_PM_apart_12 mm_PM_276 (Nat.le_of_ble_eq_true rfl) ?_
  refine Run.iret d_PM_apart_15 rfl rfl ?_
  refine ret_i ?_
  rw [m8_sub] at e1 ⊢
  have e2 := nI_ltI (a := 8 - (m8 x + 8 - m8 y) % 8) (b := (m8 x + 8 - m8 y) % 8) (by omega) (by omega)
  simp only [e2, ap]
  split <;> rfl
theorem c_PM_reachOf {k : Nat} (hk : k < 4) : Call X d 0 0 M_PM_reachOf [.int (nI k)] h (Ret (.int (nI (rc k))) h) := by
  show Run X d 0 0 M_PM_reachOf 0 [some (.int (nI k))] [] h _
  refine Run.iload_n d_PM_reachOf_0 rfl ?_
  rcases (show k = 0 ∨ k = 1 ∨ k = 2 ∨ k = 3 by omega) with rfl | rfl | rfl | rfl
  · refine Run.lsw (off := 31) (tgt := 32) d_PM_reachOf_1 (by decide +kernel) (by decide +kernel) rfl ?_
    refine Run.iconst (v := nI 1) d_PM_reachOf_32 ic_1 ?_
    refine Run.iret d_PM_reachOf_33 rfl rfl ?_
    exact ⟨rfl, rfl⟩
  · refine Run.lsw (off := 27) (tgt := 28) d_PM_reachOf_1 (by decide +kernel) (by decide +kernel) rfl ?_
    refine Run.iconst (v := nI 0) d_PM_reachOf_28 ic_0 ?_
    refine Run.iret d_PM_reachOf_29 rfl rfl ?_
    exact ⟨rfl, rfl⟩
  · refine Run.lsw (off := 31) (tgt := 32) d_PM_reachOf_1 (by decide +kernel) (by decide +kernel) rfl ?_
    refine Run.iconst (v := nI 1) d_PM_reachOf_32 ic_1 ?_
    refine Run.iret d_PM_reachOf_33 rfl rfl ?_
    exact ⟨rfl, rfl⟩
  · refine Run.lsw (off := 29) (tgt := 30) d_PM_reachOf_1 (by decide +kernel) (by decide +kernel) rfl ?_
    refine Run.iconst (v := nI 2) d_PM_reachOf_30 ic_2 ?_
    refine Run.iret d_PM_reachOf_31 rfl rfl ?_
    exact ⟨rfl, rfl⟩
theorem ap_lt (a o : Nat) : ap a o < 8 := by unfold ap; split <;> omega
theorem rc_le (k : Nat) : rc k ≤ 2 := by unfold rc; split <;> (try split) <;> omega
theorem c_PM_isShown {p o k q : Nat} {x : Int32} (hp : p < 5) (ho : o < 8) (hk : k < 4) (hq : q < 4) : Call X (d + 2) 0 0 M_PM_isShown [.int (nI p), .int (nI o), .int (nI k), .int (nI q), .int x] h (Ret (.int (bI (showN p o k q (m8 x)))) h) := by
  show Run X (d + 2) 0 0 M_PM_isShown 0 [some (.int (nI p)), some (.int (nI o)), some (.int (nI k)), some (.int (nI q)), some (.int x), none] [] h _
  have e1 := ap_lt (m8 x) (o % 8)
  have e2 := ap_lt (m8 x) ((o + 4) % 8)
  have e3 := rc_le k
  refine Run.iload_n d_PM_isShown_0 rfl ?_
  refine Run.iconst (v := nI 3) d_PM_isShown_1 ic_3 ?_
  first | refine Run.icmp_ne_n d_PM_isShown_2 (by omega) (by omega) (fun c2 => ?_) (fun c2 => ?_) | refine Run.icmp_ne d_PM_isShown_2 (fun c2 => ?_) (fun c2 => ?_)
  · refine Run.iload_n d_PM_isShown_7 rfl ?_
    refine Run.iconst (v := nI 2) d_PM_isShown_8 ic_2 ?_
    first | refine Run.icmp_ne_n d_PM_isShown_9 (by omega) (by omega) (fun c9 => ?_) (fun c9 => ?_) | refine Run.icmp_ne d_PM_isShown_9 (fun c9 => ?_) (fun c9 => ?_)
    · refine Run.iload_n d_PM_isShown_19 rfl ?_
      refine Run.S1r d_PM_isShown_20 lk_PM_281 cm_PM_reachOf st_PM_reachOf (Nat.le_of_ble_eq_true rfl) (Nat.le_of_ble_eq_true rfl) (c_PM_reachOf hk) ?_
      refine Run.iload_n d_PM_isShown_23 rfl ?_
      refine Run.iconst (v := nI 1) d_PM_isShown_24 ic_1 ?_
      first | refine Run.icmp_ne_n d_PM_isShown_25 (by omega) (by omega) (fun c25 => ?_) (fun c25 => ?_) | refine Run.icmp_ne d_PM_isShown_25 (fun c25 => ?_) (fun c25 => ?_)
      · refine Run.iconst (v := nI 0) d_PM_isShown_32 ic_0 ?_
        first | refine Run.iadd_n d_PM_isShown_33 ?_ | refine Run.iadd d_PM_isShown_33 ?_
        refine Run.istore d_PM_isShown_34 rfl rfl ?_
        show Run _ _ _ _ _ _ [_, _, _, _, _, _] _ _ _
        refine Run.iload d_PM_isShown_36 rfl ?_
        refine Run.iload_n d_PM_isShown_38 rfl ?_
        refine Run.S2r d_PM_isShown_39 lk_PM_284 cm_PM_apart st_PM_apart (Nat.le_of_ble_eq_true rfl) (Nat.le_of_ble_eq_true rfl) (c_PM_apart) ?_
        rw [m8_nI]
        refine Run.iload d_PM_isShown_42 rfl ?_
        first | refine Run.icmp_le_n d_PM_isShown_44 (by omega) (by omega) (fun c44 => ?_) (fun c44 => ?_) | refine Run.icmp_le d_PM_isShown_44 (fun c44 => ?_) (fun c44 => ?_)
        · refine Run.iconst (v := nI 1) d_PM_isShown_65 ic_1 ?_
          refine Run.goto d_PM_isShown_66 ?_
          refine Run.iret d_PM_isShown_70 rfl (by first | exact bI_nar _ | decide +kernel) ?_
          first | exact ret_t (by unfold showN; simp_all; try omega) | exact ret_f (by unfold showN; simp_all; try omega)
        · refine Run.iload_n d_PM_isShown_47 rfl ?_
          refine Run.iconst (v := nI 2) d_PM_isShown_48 ic_2 ?_
          first | refine Run.icmp_ne_n d_PM_isShown_49 (by omega) (by omega) (fun c49 => ?_) (fun c49 => ?_) | refine Run.icmp_ne d_PM_isShown_49 (fun c49 => ?_) (fun c49 => ?_)
          · refine Run.iconst (v := nI 0) d_PM_isShown_69 ic_0 ?_
            refine Run.iret d_PM_isShown_70 rfl (by first | exact bI_nar _ | decide +kernel) ?_
            first | exact ret_t (by unfold showN; simp_all; try omega) | exact ret_f (by unfold showN; simp_all; try omega)
          · refine Run.iload d_PM_isShown_52 rfl ?_
            refine Run.iload_n d_PM_isShown_54 rfl ?_
            refine Run.iconst (v := nI 4) d_PM_isShown_55 ic_4 ?_
            first | refine Run.iadd_n d_PM_isShown_56 ?_ | refine Run.iadd d_PM_isShown_56 ?_
            refine Run.S2r d_PM_isShown_57 lk_PM_284 cm_PM_apart st_PM_apart (Nat.le_of_ble_eq_true rfl) (Nat.le_of_ble_eq_true rfl) (c_PM_apart) ?_
            rw [m8_nI]
            refine Run.iload d_PM_isShown_60 rfl ?_
            first | refine Run.icmp_gt_n d_PM_isShown_62 (by omega) (by omega) (fun c62 => ?_) (fun c62 => ?_) | refine Run.icmp_gt d_PM_isShown_62 (fun c62 => ?_) (fun c62 => ?_)
            · refine Run.iconst (v := nI 0) d_PM_isShown_69 ic_0 ?_
              refine Run.iret d_PM_isShown_70 rfl (by first | exact bI_nar _ | decide +kernel) ?_
              first | exact ret_t (by unfold showN; simp_all; try omega) | exact ret_f (by unfold showN; simp_all; try omega)
            · refine Run.iconst (v := nI 1) d_PM_isShown_65 ic_1 ?_
              refine Run.goto d_PM_isShown_66 ?_
              refine Run.iret d_PM_isShown_70 rfl (by first | exact bI_nar _ | decide +kernel) ?_
              first | exact ret_t (by unfold showN; simp_all; try omega) | exact ret_f (by unfold showN; simp_all; try omega)
      · refine Run.iconst (v := nI 1) d_PM_isShown_28 ic_1 ?_
        refine Run.goto d_PM_isShown_29 ?_
        first | refine Run.iadd_n d_PM_isShown_33 ?_ | refine Run.iadd d_PM_isShown_33 ?_
        refine Run.istore d_PM_isShown_34 rfl rfl ?_
        show Run _ _ _ _ _ _ [_, _, _, _, _, _] _ _ _
        refine Run.iload d_PM_isShown_36 rfl ?_
        refine Run.iload_n d_PM_isShown_38 rfl ?_
        refine Run.S2r d_PM_isShown_39 lk_PM_284 cm_PM_apart st_PM_apart (Nat.le_of_ble_eq_true rfl) (Nat.le_of_ble_eq_true rfl) (c_PM_apart) ?_
        rw [m8_nI]
        refine Run.iload d_PM_isShown_42 rfl ?_
        first | refine Run.icmp_le_n d_PM_isShown_44 (by omega) (by omega) (fun c44 => ?_) (fun c44 => ?_) | refine Run.icmp_le d_PM_isShown_44 (fun c44 => ?_) (fun c44 => ?_)
        · refine Run.iconst (v := nI 1) d_PM_isShown_65 ic_1 ?_
          refine Run.goto d_PM_isShown_66 ?_
          refine Run.iret d_PM_isShown_70 rfl (by first | exact bI_nar _ | decide +kernel) ?_
          first | exact ret_t (by unfold showN; simp_all; try omega) | exact ret_f (by unfold showN; simp_all; try omega)
        · refine Run.iload_n d_PM_isShown_47 rfl ?_
          refine Run.iconst (v := nI 2) d_PM_isShown_48 ic_2 ?_
          first | refine Run.icmp_ne_n d_PM_isShown_49 (by omega) (by omega) (fun c49 => ?_) (fun c49 => ?_) | refine Run.icmp_ne d_PM_isShown_49 (fun c49 => ?_) (fun c49 => ?_)
          · refine Run.iconst (v := nI 0) d_PM_isShown_69 ic_0 ?_
            refine Run.iret d_PM_isShown_70 rfl (by first | exact bI_nar _ | decide +kernel) ?_
            first | exact ret_t (by unfold showN; simp_all; try omega) | exact ret_f (by unfold showN; simp_all; try omega)
          · refine Run.iload d_PM_isShown_52 rfl ?_
            refine Run.iload_n d_PM_isShown_54 rfl ?_
            refine Run.iconst (v := nI 4) d_PM_isShown_55 ic_4 ?_
            first | refine Run.iadd_n d_PM_isShown_56 ?_ | refine Run.iadd d_PM_isShown_56 ?_
            refine Run.S2r d_PM_isShown_57 lk_PM_284 cm_PM_apart st_PM_apart (Nat.le_of_ble_eq_true rfl) (Nat.le_of_ble_eq_true rfl) (c_PM_apart) ?_
            rw [m8_nI]
            refine Run.iload d_PM_isShown_60 rfl ?_
            first | refine Run.icmp_gt_n d_PM_isShown_62 (by omega) (by omega) (fun c62 => ?_) (fun c62 => ?_) | refine Run.icmp_gt d_PM_isShown_62 (fun c62 => ?_) (fun c62 => ?_)
            · refine Run.iconst (v := nI 0) d_PM_isShown_69 ic_0 ?_
              refine Run.iret d_PM_isShown_70 rfl (by first | exact bI_nar _ | decide +kernel) ?_
              first | exact ret_t (by unfold showN; simp_all; try omega) | exact ret_f (by unfold showN; simp_all; try omega)
            · refine Run.iconst (v := nI 1) d_PM_isShown_65 ic_1 ?_
              refine Run.goto d_PM_isShown_66 ?_
              refine Run.iret d_PM_isShown_70 rfl (by first | exact bI_nar _ | decide +kernel) ?_
              first | exact ret_t (by unfold showN; simp_all; try omega) | exact ret_f (by unfold showN; simp_all; try omega)
    · refine Run.iload_n d_PM_isShown_12 rfl ?_
      refine Run.iconst (v := nI 2) d_PM_isShown_13 ic_2 ?_
      first | refine Run.icmp_ne_n d_PM_isShown_14 (by omega) (by omega) (fun c14 => ?_) (fun c14 => ?_) | refine Run.icmp_ne d_PM_isShown_14 (fun c14 => ?_) (fun c14 => ?_)
      · refine Run.iload_n d_PM_isShown_19 rfl ?_
        refine Run.S1r d_PM_isShown_20 lk_PM_281 cm_PM_reachOf st_PM_reachOf (Nat.le_of_ble_eq_true rfl) (Nat.le_of_ble_eq_true rfl) (c_PM_reachOf hk) ?_
        refine Run.iload_n d_PM_isShown_23 rfl ?_
        refine Run.iconst (v := nI 1) d_PM_isShown_24 ic_1 ?_
        first | refine Run.icmp_ne_n d_PM_isShown_25 (by omega) (by omega) (fun c25 => ?_) (fun c25 => ?_) | refine Run.icmp_ne d_PM_isShown_25 (fun c25 => ?_) (fun c25 => ?_)
        · refine Run.iconst (v := nI 0) d_PM_isShown_32 ic_0 ?_
          first | refine Run.iadd_n d_PM_isShown_33 ?_ | refine Run.iadd d_PM_isShown_33 ?_
          refine Run.istore d_PM_isShown_34 rfl rfl ?_
          show Run _ _ _ _ _ _ [_, _, _, _, _, _] _ _ _
          refine Run.iload d_PM_isShown_36 rfl ?_
          refine Run.iload_n d_PM_isShown_38 rfl ?_
          refine Run.S2r d_PM_isShown_39 lk_PM_284 cm_PM_apart st_PM_apart (Nat.le_of_ble_eq_true rfl) (Nat.le_of_ble_eq_true rfl) (c_PM_apart) ?_
          rw [m8_nI]
          refine Run.iload d_PM_isShown_42 rfl ?_
          first | refine Run.icmp_le_n d_PM_isShown_44 (by omega) (by omega) (fun c44 => ?_) (fun c44 => ?_) | refine Run.icmp_le d_PM_isShown_44 (fun c44 => ?_) (fun c44 => ?_)
          · refine Run.iconst (v := nI 1) d_PM_isShown_65 ic_1 ?_
            refine Run.goto d_PM_isShown_66 ?_
            refine Run.iret d_PM_isShown_70 rfl (by first | exact bI_nar _ | decide +kernel) ?_
            first | exact ret_t (by unfold showN; simp_all; try omega) | exact ret_f (by unfold showN; simp_all; try omega)
          · refine Run.iload_n d_PM_isShown_47 rfl ?_
            refine Run.iconst (v := nI 2) d_PM_isShown_48 ic_2 ?_
            first | refine Run.icmp_ne_n d_PM_isShown_49 (by omega) (by omega) (fun c49 => ?_) (fun c49 => ?_) | refine Run.icmp_ne d_PM_isShown_49 (fun c49 => ?_) (fun c49 => ?_)
            · refine Run.iconst (v := nI 0) d_PM_isShown_69 ic_0 ?_
              refine Run.iret d_PM_isShown_70 rfl (by first | exact bI_nar _ | decide +kernel) ?_
              first | exact ret_t (by unfold showN; simp_all; try omega) | exact ret_f (by unfold showN; simp_all; try omega)
            · refine Run.iload d_PM_isShown_52 rfl ?_
              refine Run.iload_n d_PM_isShown_54 rfl ?_
              refine Run.iconst (v := nI 4) d_PM_isShown_55 ic_4 ?_
              first | refine Run.iadd_n d_PM_isShown_56 ?_ | refine Run.iadd d_PM_isShown_56 ?_
              refine Run.S2r d_PM_isShown_57 lk_PM_284 cm_PM_apart st_PM_apart (Nat.le_of_ble_eq_true rfl) (Nat.le_of_ble_eq_true rfl) (c_PM_apart) ?_
              rw [m8_nI]
              refine Run.iload d_PM_isShown_60 rfl ?_
              first | refine Run.icmp_gt_n d_PM_isShown_62 (by omega) (by omega) (fun c62 => ?_) (fun c62 => ?_) | refine Run.icmp_gt d_PM_isShown_62 (fun c62 => ?_) (fun c62 => ?_)
              · refine Run.iconst (v := nI 0) d_PM_isShown_69 ic_0 ?_
                refine Run.iret d_PM_isShown_70 rfl (by first | exact bI_nar _ | decide +kernel) ?_
                first | exact ret_t (by unfold showN; simp_all; try omega) | exact ret_f (by unfold showN; simp_all; try omega)
              · refine Run.iconst (v := nI 1) d_PM_isShown_65 ic_1 ?_
                refine Run.goto d_PM_isShown_66 ?_
                refine Run.iret d_PM_isShown_70 rfl (by first | exact bI_nar _ | decide +kernel) ?_
                first | exact ret_t (by unfold showN; simp_all; try omega) | exact ret_f (by unfold showN; simp_all; try omega)
        · refine Run.iconst (v := nI 1) d_PM_isShown_28 ic_1 ?_
          refine Run.goto d_PM_isShown_29 ?_
          first | refine Run.iadd_n d_PM_isShown_33 ?_ | refine Run.iadd d_PM_isShown_33 ?_
          refine Run.istore d_PM_isShown_34 rfl rfl ?_
          show Run _ _ _ _ _ _ [_, _, _, _, _, _] _ _ _
          refine Run.iload d_PM_isShown_36 rfl ?_
          refine Run.iload_n d_PM_isShown_38 rfl ?_
          refine Run.S2r d_PM_isShown_39 lk_PM_284 cm_PM_apart st_PM_apart (Nat.le_of_ble_eq_true rfl) (Nat.le_of_ble_eq_true rfl) (c_PM_apart) ?_
          rw [m8_nI]
          refine Run.iload d_PM_isShown_42 rfl ?_
          first | refine Run.icmp_le_n d_PM_isShown_44 (by omega) (by omega) (fun c44 => ?_) (fun c44 => ?_) | refine Run.icmp_le d_PM_isShown_44 (fun c44 => ?_) (fun c44 => ?_)
          · refine Run.iconst (v := nI 1) d_PM_isShown_65 ic_1 ?_
            refine Run.goto d_PM_isShown_66 ?_
            refine Run.iret d_PM_isShown_70 rfl (by first | exact bI_nar _ | decide +kernel) ?_
            first | exact ret_t (by unfold showN; simp_all; try omega) | exact ret_f (by unfold showN; simp_all; try omega)
          · refine Run.iload_n d_PM_isShown_47 rfl ?_
            refine Run.iconst (v := nI 2) d_PM_isShown_48 ic_2 ?_
            first | refine Run.icmp_ne_n d_PM_isShown_49 (by omega) (by omega) (fun c49 => ?_) (fun c49 => ?_) | refine Run.icmp_ne d_PM_isShown_49 (fun c49 => ?_) (fun c49 => ?_)
            · refine Run.iconst (v := nI 0) d_PM_isShown_69 ic_0 ?_
              refine Run.iret d_PM_isShown_70 rfl (by first | exact bI_nar _ | decide +kernel) ?_
              first | exact ret_t (by unfold showN; simp_all; try omega) | exact ret_f (by unfold showN; simp_all; try omega)
            · refine Run.iload d_PM_isShown_52 rfl ?_
              refine Run.iload_n d_PM_isShown_54 rfl ?_
              refine Run.iconst (v := nI 4) d_PM_isShown_55 ic_4 ?_
              first | refine Run.iadd_n d_PM_isShown_56 ?_ | refine Run.iadd d_PM_isShown_56 ?_
              refine Run.S2r d_PM_isShown_57 lk_PM_284 cm_PM_apart st_PM_apart (Nat.le_of_ble_eq_true rfl) (Nat.le_of_ble_eq_true rfl) (c_PM_apart) ?_
              rw [m8_nI]
              refine Run.iload d_PM_isShown_60 rfl ?_
              first | refine Run.icmp_gt_n d_PM_isShown_62 (by omega) (by omega) (fun c62 => ?_) (fun c62 => ?_) | refine Run.icmp_gt d_PM_isShown_62 (fun c62 => ?_) (fun c62 => ?_)
              · refine Run.iconst (v := nI 0) d_PM_isShown_69 ic_0 ?_
                refine Run.iret d_PM_isShown_70 rfl (by first | exact bI_nar _ | decide +kernel) ?_
                first | exact ret_t (by unfold showN; simp_all; try omega) | exact ret_f (by unfold showN; simp_all; try omega)
              · refine Run.iconst (v := nI 1) d_PM_isShown_65 ic_1 ?_
                refine Run.goto d_PM_isShown_66 ?_
                refine Run.iret d_PM_isShown_70 rfl (by first | exact bI_nar _ | decide +kernel) ?_
                first | exact ret_t (by unfold showN; simp_all; try omega) | exact ret_f (by unfold showN; simp_all; try omega)
      · refine Run.iconst (v := nI 1) d_PM_isShown_17 ic_1 ?_
        refine Run.iret d_PM_isShown_18 rfl (by first | exact bI_nar _ | decide +kernel) ?_
        first | exact ret_t (by unfold showN; simp_all; try omega) | exact ret_f (by unfold showN; simp_all; try omega)
  · refine Run.iconst (v := nI 0) d_PM_isShown_5 ic_0 ?_
    refine Run.iret d_PM_isShown_6 rfl (by first | exact bI_nar _ | decide +kernel) ?_
    first | exact ret_t (by unfold showN; simp_all; try omega) | exact ret_f (by unfold showN; simp_all; try omega)
end LEAF
