/-! ===== how many mothers: rows of pieces ===== -/
/-- whether two pieces may be in one row (b below a) -/
def cmN (c : CA) (a b : Nat) : Bool := decide (¬ ptC c b = ptC c a) && decide (ap (anC c b) (anC c a) ≤ 2)
def RowP (c : CA) (s : Nat) : Prop := ∀ a b, b < a → s.testBit a = true → s.testBit b = true → cmN c a b = true
def ColP (c : CA) (s k : Nat) : Prop := ∃ r : Nat → Nat, (∀ a, s.testBit a = true → r a < k) ∧ ∀ a b, b < a → s.testBit a = true → s.testBit b = true → r a = r b → cmN c a b = true
def FwP (c : CA) (s k : Nat) : Prop := ColP c s k ∧ ∀ k', ColP c s k' → k ≤ k'
theorem fw_uni {c : CA} {s k k' : Nat} (h : FwP c s k) (h' : FwP c s k') : k = k' := Nat.le_antisymm (h.2 k' h'.1) (h'.2 k h.1)
theorem fw_0 (c : CA) : FwP c 0 0 := by
  refine ⟨⟨fun _ => 0, fun a h => ?_, fun a b _ h => ?_⟩, fun _ _ => Nat.zero_le _⟩
  · rw [Nat.zero_testBit] at h; cases h
  · rw [Nat.zero_testBit] at h; cases h
theorem min_n {a b : Nat} (ha : a < 2 ^ 31) (hb : b < 2 ^ 31) : (if nI a < nI b then nI a else nI b) = nI (if a < b then a else b) := by
  have e7 := nI_ltI ha hb
  by_cases hq : a < b
  · rw [if_pos (e7.mpr hq), if_pos hq]
  · rw [if_neg (fun z => hq (e7.mp z)), if_neg hq]
theorem bit_lt {s n a : Nat} (hs : s < 2 ^ n) (h : s.testBit a = true) : a < n := by
  rcases Nat.lt_or_ge a n with q | q
  · exact q
  · rw [Nat.testBit_lt_two_pow (Nat.lt_of_lt_of_le hs (Nat.pow_le_pow_right (by omega) q))] at h
    cases h
theorem col_n {c : CA} {s n : Nat} (hs : s < 2 ^ n) : ColP c s n := ⟨fun a => a, fun a h => bit_lt hs h, fun a b hb _ _ e => by have e : a = b := e; omega⟩
theorem fw_le {c : CA} {s n k : Nat} (hs : s < 2 ^ n) (h : FwP c s k) : k ≤ n := h.2 n (col_n hs)
/-- rows that hold the last one -/
def OkR (c : CA) (s l r : Nat) : Prop := 2 ^ l ≤ r ∧ (∀ a, r.testBit a = true → s.testBit a = true) ∧ RowP c r
theorem xor_bit {s r a : Nat} (h : ∀ a, r.testBit a = true → s.testBit a = true) : (s ^^^ r).testBit a = true ↔ s.testBit a = true ∧ ¬ r.testBit a = true := by
  rw [Nat.testBit_xor]
  have := h a
  cases hr : r.testBit a <;> cases hs : s.testBit a <;> simp_all
theorem sub_le {r s : Nat} (h : ∀ a, r.testBit a = true → s.testBit a = true) : r ≤ s := by
  have h1 : r ||| s = s := by
    apply Nat.eq_of_testBit_eq
    intro t
    rw [Nat.testBit_or]
    cases hr : r.testBit t
    · rw [Bool.false_or]
    · rw [h t hr]; rfl
  rw [← h1]
  exact Nat.left_le_or
theorem top_bit {r l : Nat} (h1 : 2 ^ l ≤ r) (h2 : r < 2 ^ (l + 1)) : r.testBit l = true := by
  rw [Nat.testBit_eq_decide_div_mod_eq, decide_eq_true_eq]
  have h3 : r / 2 ^ l = 1 := by
    rw [Nat.pow_succ] at h2
    have a1 : 1 ≤ r / 2 ^ l := Nat.div_pos h1 (Nat.two_pow_pos l)
    have a2 : r / 2 ^ l < 2 := Nat.div_lt_of_lt_mul h2
    omega
  rw [h3]
theorem fw_step {c : CA} {s l m : Nat} (hl6 : l < 6) (hl : s.testBit l = true) (htop : s < 2 ^ (l + 1)) (hE : ∀ r, OkR c s l r → ∃ k, FwP c (s ^^^ r) k)
    (hA : m = 6 ∨ ∃ r k, OkR c s l r ∧ FwP c (s ^^^ r) k ∧ m = 1 + k) (hB : m ≤ 6 ∧ ∀ r, OkR c s l r → ∀ k, FwP c (s ^^^ r) k → m ≤ 1 + k) : FwP c s m := by
  have hs64 : s < 2 ^ 6 := Nat.lt_of_lt_of_le htop (Nat.pow_le_pow_right (by omega) (by omega))
  refine ⟨?_, ?_⟩
  · rcases hA with rfl | ⟨r, k, ⟨h1, h2, h3⟩, ⟨⟨f, g1, g2⟩, -⟩, rfl⟩
    · exact col_n hs64
    · refine ⟨fun a => if r.testBit a = true then k else f a, fun a ha => ?_, fun a b hb ha hbb e => ?_⟩
      · show (if r.testBit a = true then k else f a) < 1 + k
        by_cases hr : r.testBit a = true
        · rw [if_pos hr]; omega
        · rw [if_neg hr]
          have := g1 a ((xor_bit h2).mpr ⟨ha, hr⟩)
          omega
      · have e : (if r.testBit a = true then k else f a) = (if r.testBit b = true then k else f b) := e
        by_cases hr : r.testBit a = true
        · by_cases hr2 : r.testBit b = true
          · exact h3 a b hb hr hr2
          · rw [if_pos hr, if_neg hr2] at e
            have := g1 b ((xor_bit h2).mpr ⟨hbb, hr2⟩)
            omega
        · by_cases hr2 : r.testBit b = true
          · rw [if_neg hr, if_pos hr2] at e
            have := g1 a ((xor_bit h2).mpr ⟨ha, hr⟩)
            omega
          · rw [if_neg hr, if_neg hr2] at e
            exact g2 a b hb ((xor_bit h2).mpr ⟨ha, hr⟩) ((xor_bit h2).mpr ⟨hbb, hr2⟩) e
  · rintro k' ⟨f, g1, g2⟩
    have hrb : ∀ a, (itN (fun i acc => if s.testBit i = true ∧ f i = f l then acc ||| 2 ^ i else acc) 0 6).testBit a = true ↔ a < 6 ∧ s.testBit a = true ∧ f a = f l := by
      intro a
      rw [or_bit (P := fun i => s.testBit i = true ∧ f i = f l) (g := fun i => i)]
      constructor
      · rintro ⟨i, h1, h2, rfl⟩; exact ⟨h1, h2⟩
      · rintro ⟨h1, h2⟩; exact ⟨a, h1, h2, rfl⟩
    generalize itN (fun i acc => if s.testBit i = true ∧ f i = f l then acc ||| 2 ^ i else acc) 0 6 = row at hrb
    have hok : OkR c s l row := by
      refine ⟨?_, fun a ha => ((hrb a).mp ha).2.1, fun a b hb ha hbb => ?_⟩
      · exact Nat.ge_two_pow_of_testBit ((hrb l).mpr ⟨hl6, hl, rfl⟩)
      · have h1 := (hrb a).mp ha
        have h2 := (hrb b).mp hbb
        exact g2 a b hb h1.2.1 h2.2.1 (by rw [h1.2.2, h2.2.2])
    obtain ⟨k, hk⟩ := hE row hok
    have hlk := g1 l hl
    have hx : ∀ a, (s ^^^ row).testBit a = true → s.testBit a = true ∧ ¬ f a = f l := by
      intro a ha
      have h1 := (xor_bit hok.2.1).mp ha
      exact ⟨h1.1, fun e => h1.2 ((hrb a).mpr ⟨bit_lt hs64 h1.1, h1.1, e⟩)⟩
    have hcol : ColP c (s ^^^ row) (k' - 1) := by
      refine ⟨fun a => if f a = k' - 1 then f l else f a, fun a ha => ?_, fun a b hb ha hbb e => ?_⟩
      · have h1 := hx a ha
        have h2 := g1 a h1.1
        have h3 := h1.2
        show (if f a = k' - 1 then f l else f a) < k' - 1
        by_cases e : f a = k' - 1
        · rw [if_pos e]; omega
        · rw [if_neg e]; omega
      · have e : (if f a = k' - 1 then f l else f a) = (if f b = k' - 1 then f l else f b) := e
        have h1 := hx a ha
        have h2 := hx b hbb
        refine g2 a b hb h1.1 h2.1 ?_
        by_cases ea : f a = k' - 1
        · by_cases eb : f b = k' - 1
          · rw [ea, eb]
          · rw [if_pos ea, if_neg eb] at e
            exact absurd e.symm h2.2
        · by_cases eb : f b = k' - 1
          · rw [if_neg ea, if_pos eb] at e
            exact absurd e h1.2
          · rw [if_neg ea, if_neg eb] at e
            exact e
    have h3 := hB.2 row hok k hk
    have h4 := hk.2 _ hcol
    omega
theorem row_step {c : CA} {s l o : Nat} (hl : s.testBit l = true) (htop : s < 2 ^ (l + 1)) (ho : o = s ^^^ 2 ^ l) : RowP c s ↔ RowP c o ∧ ∀ b, b < l → o.testBit b = true → cmN c l b = true := by
  have hsub : ∀ a, (2 ^ l).testBit a = true → s.testBit a = true := fun a ha => by
    rw [Nat.testBit_two_pow, decide_eq_true_eq] at ha
    rw [← ha]; exact hl
  have hob : ∀ a, o.testBit a = true ↔ s.testBit a = true ∧ ¬ a = l := by
    intro a
    rw [ho, xor_bit hsub, Nat.testBit_two_pow, decide_eq_true_eq]
    constructor
    · rintro ⟨h1, h2⟩; exact ⟨h1, fun e => h2 e.symm⟩
    · rintro ⟨h1, h2⟩; exact ⟨h1, fun e => h2 e.symm⟩
  constructor
  · intro h
    exact ⟨fun a b hb h1 h2 => h a b hb ((hob a).mp h1).1 ((hob b).mp h2).1, fun b hb h2 => h l b hb hl ((hob b).mp h2).1⟩
  · rintro ⟨h1, h2⟩ a b hb ha hbb
    have hal := bit_lt htop ha
    by_cases e : a = l
    · subst e
      exact h2 b hb ((hob b).mpr ⟨hbb, by omega⟩)
    · exact h1 a b hb ((hob a).mpr ⟨ha, e⟩) ((hob b).mpr ⟨hbb, by omega⟩)
theorem row_0 (c : CA) : RowP c 0 := fun a b _ h => by rw [Nat.zero_testBit] at h; cases h
theorem sub_dec : ∀ r, r < 64 → ∀ s, s < 64 → (nI r &&& (nI s ^^^ -1)) = nI (r &&& (s ^^^ 63)) := by decide +kernel
theorem sub_bits : ∀ r, r < 64 → ∀ s, s < 64 → (r &&& (s ^^^ 63) = 0 ↔ ∀ a, a < 6 → r.testBit a = true → s.testBit a = true) := by decide +kernel
theorem top_xor : ∀ s, s < 64 → 0 < s → s ^^^ 2 ^ hbN s < 2 ^ hbN s := by decide +kernel
theorem row_xor : ∀ s, s < 64 → 0 < s → ∀ r, r < 64 → r &&& (s ^^^ 63) = 0 → 2 ^ hbN s ≤ r → s ^^^ r < 2 ^ hbN s := by decide +kernel
theorem sub_iff {r s : Nat} (hr : r < 64) (hs : s < 64) : r &&& (s ^^^ 63) = 0 ↔ ∀ a, r.testBit a = true → s.testBit a = true := by
  rw [sub_bits r hr s hs]
  constructor
  · intro h a ha; exact h a (bit_lt (n := 6) hr ha) ha
  · intro h a _ ha; exact h a ha
/-- the two rows of the search, below q -/
def MoI (c : CA) (fi fe : FI) (p q : Nat) : Prop := (∀ s, s < p → ∃ b, fi s = bI b ∧ (b = true ↔ RowP c s)) ∧ ∀ s, s < q → ∃ k, fe s = nI k ∧ FwP c s k
section MOTH
variable {X : Nat × (Nat → Int32)} {d : Nat} {c : CA} {p : PG} {t : AH} {tx : TxS} {ca cb : CoS} {kt kd : Nat} {sd : Int64} {nw tr s0 s1 : StS} {ac : AcS} {tu : TuS} {gi : GiS} {dn ch : FI} {fi fe : FI}
theorem c_Mo_goesWith {h : AH} {k l o : Nat} (hc : coOK c) (hco : CoAt h k c) (hl : l < npC c) (ho : o < 64) : Call X (d + 2) 0 0 M_Mo_goesWith [.ref (k + 1), .int (nI l), .int (nI o)] h (fun r h2 => h2 = h ∧ ∃ b, r = some (.int (bI b)) ∧ (b = true ↔ ∀ x, x < l → o.testBit x = true → cmN c l x = true)) := by
  show Run X (d + 2) 0 0 M_Mo_goesWith 0 [some (.ref (k + 1)), some (.int (nI l)), some (.int (nI o)), none] [] h _
  obtain ⟨fhk, fpt, fan, fkd, fhd, li, g0, g1, g2, g3, g4, g5, hv1, hv2⟩ := id hco
  obtain ⟨b1, b2, b3, b4⟩ := id hc
  have hl4 := b4 l hl
  refine Run.iconst (v := nI 0) d_Mo_goesWith_0 ic_0 ?_
  refine Run.istore_n d_Mo_goesWith_1 rfl rfl ?_
  show Run _ _ _ _ _ _ [_, _, _, _] _ _ _
  refine upto l (fun i => (∀ x, x < i → o.testBit x = true → cmN c l x = true) → Run X (d + 2) 0 0 M_Mo_goesWith 2 [some (.ref (k + 1)), some (.int (nI l)), some (.int (nI o)), some (.int (nI i))] [] h _) ?_ 0 (Nat.zero_le _) (fun x hx => by omega)
  intro i hi ih he
  refine Run.iload_n d_Mo_goesWith_2 rfl ?_
  refine Run.iload_n d_Mo_goesWith_3 rfl ?_
  first | refine Run.icmp_ge_n d_Mo_goesWith_4 (by omega) (by omega) (fun c4 => ?_) (fun c4 => ?_) | refine Run.icmp_ge d_Mo_goesWith_4 (fun c4 => ?_) (fun c4 => ?_)
  · refine Run.iconst (v := nI 1) d_Mo_goesWith_57 ic_1 ?_
    refine Run.iret d_Mo_goesWith_58 rfl (by first | exact bI_nar _ | decide +kernel) ?_
    exact ⟨rfl, true, rfl, fun _ x hx => he x (by omega), fun _ => rfl⟩
  · refine Run.iload_n d_Mo_goesWith_7 rfl ?_
    refine Run.iload_n d_Mo_goesWith_8 rfl ?_
    refine Run.S2r d_Mo_goesWith_9 lk_Mo_39 cm_PM_hasBit st_PM_hasBit (Nat.le_of_ble_eq_true rfl) (Nat.le_of_ble_eq_true rfl) (c_PM_hasBit (by omega) (by omega)) ?_
    first | refine Run.if_eq_b d_Mo_goesWith_12 (fun c12 => ?_) (fun c12 => ?_) | refine Run.if_eq_n d_Mo_goesWith_12 (by omega) (fun c12 => ?_) (fun c12 => ?_) | refine Run.if_eq d_Mo_goesWith_12 (fun c12 => ?_) (fun c12 => ?_)
    · first | refine Run.iinc_n d_Mo_goesWith_51 ic_1 rfl rfl ?_ | refine Run.iinc d_Mo_goesWith_51 rfl rfl rfl ?_
      show Run _ _ _ _ _ _ [_, _, _, _] _ _ _
      refine Run.goto d_Mo_goesWith_54 ?_
      refine ih c4 (fun x hx hb => ?_)
      by_cases e : x = i
      · subst e
        first
          | (rw [c12] at hb; cases hb; done)
          | (rw [cmN, decide_eq_true c27, decide_eq_true c46]; rfl)
      · exact he x (by omega) hb
    · refine Run.aload_n d_Mo_goesWith_15 rfl ?_
      refine Run.getf d_Mo_goesWith_16 fl_Mo_43 (by first | rfl | assumption) (by rfl) ?_
      refine Run.iload_n d_Mo_goesWith_19 rfl ?_
      refine Run.iald_n d_Mo_goesWith_20 (by first | rfl | assumption) (by omega) (by omega) ?_
      rw [(hv2 i (by omega)).1]
      have w1 := b4 i (by omega)
      refine Run.aload_n d_Mo_goesWith_21 rfl ?_
      refine Run.getf d_Mo_goesWith_22 fl_Mo_43 (by first | rfl | assumption) (by rfl) ?_
      refine Run.iload_n d_Mo_goesWith_25 rfl ?_
      refine Run.iald_n d_Mo_goesWith_26 (by first | rfl | assumption) (by omega) (by omega) ?_
      rw [(hv2 l hl).1]
      first | refine Run.icmp_eq_n d_Mo_goesWith_27 (by omega) (by omega) (fun c27 => ?_) (fun c27 => ?_) | refine Run.icmp_eq d_Mo_goesWith_27 (fun c27 => ?_) (fun c27 => ?_)
      · refine Run.iconst (v := nI 0) d_Mo_goesWith_49 ic_0 ?_
        refine Run.iret d_Mo_goesWith_50 rfl (by first | exact bI_nar _ | decide +kernel) ?_
        refine ⟨rfl, false, rfl, ?_⟩
        constructor
        · intro q; cases q
        · intro q
          have q1 := q i c4 c12
          rw [cmN, Bool.and_eq_true, decide_eq_true_eq, decide_eq_true_eq] at q1
          first
            | exact absurd c27 q1.1
            | (exfalso; omega)
      · refine Run.aload_n d_Mo_goesWith_30 rfl ?_
        refine Run.getf d_Mo_goesWith_31 fl_Mo_46 (by first | rfl | assumption) (by rfl) ?_
        refine Run.iload_n d_Mo_goesWith_34 rfl ?_
        refine Run.iald_n d_Mo_goesWith_35 (by first | rfl | assumption) (by omega) (by omega) ?_
        rw [(hv2 i (by omega)).2.1]
        refine Run.aload_n d_Mo_goesWith_36 rfl ?_
        refine Run.getf d_Mo_goesWith_37 fl_Mo_46 (by first | rfl | assumption) (by rfl) ?_
        refine Run.iload_n d_Mo_goesWith_40 rfl ?_
        refine Run.iald_n d_Mo_goesWith_41 (by first | rfl | assumption) (by omega) (by omega) ?_
        rw [(hv2 l hl).2.1]
        refine Run.S2r d_Mo_goesWith_42 lk_Mo_49 cm_PM_apart st_PM_apart (Nat.le_of_ble_eq_true rfl) (Nat.le_of_ble_eq_true rfl) (c_PM_apart) ?_
        rw [m8_nI, m8_nI, Nat.mod_eq_of_lt w1.2.1, Nat.mod_eq_of_lt hl4.2.1]
        have w2 := ap_lt (anC c i) (anC c l)
        refine Run.iconst (v := nI 2) d_Mo_goesWith_45 ic_2 ?_
        first | refine Run.icmp_le_n d_Mo_goesWith_46 (by omega) (by omega) (fun c46 => ?_) (fun c46 => ?_) | refine Run.icmp_le d_Mo_goesWith_46 (fun c46 => ?_) (fun c46 => ?_)
        · first | refine Run.iinc_n d_Mo_goesWith_51 ic_1 rfl rfl ?_ | refine Run.iinc d_Mo_goesWith_51 rfl rfl rfl ?_
          show Run _ _ _ _ _ _ [_, _, _, _] _ _ _
          refine Run.goto d_Mo_goesWith_54 ?_
          refine ih c4 (fun x hx hb => ?_)
          by_cases e : x = i
          · subst e
            first
              | (rw [c12] at hb; cases hb; done)
              | (rw [cmN, decide_eq_true c27, decide_eq_true c46]; rfl)
          · exact he x (by omega) hb
        · refine Run.iconst (v := nI 0) d_Mo_goesWith_49 ic_0 ?_
          refine Run.iret d_Mo_goesWith_50 rfl (by first | exact bI_nar _ | decide +kernel) ?_
          refine ⟨rfl, false, rfl, ?_⟩
          constructor
          · intro q; cases q
          · intro q
            have q1 := q i c4 c12
            rw [cmN, Bool.and_eq_true, decide_eq_true_eq, decide_eq_true_eq] at q1
            first
              | exact absurd c27 q1.1
              | (exfalso; omega)
theorem q_Mo_fewestOf {s : Nat} (hs : s < 64) (h0 : 0 < s) (hI : MoI c fi fe (s + 1) s) : Call X (d + 1) 0 0 M_Mo_fewestOf [.ref 33, .int (nI s), .int (nI (hbN s))] (hX tx ca cb kt kd sd nw tr ac tu gi (fi, fe) dn ch s0 s1 ++ t) (fun r h2 => h2 = hX tx ca cb kt kd sd nw tr ac tu gi (fi, fe) dn ch s0 s1 ++ t ∧ ∃ k, r = some (.int (nI k)) ∧ FwP c s k) := by
  show Run X (d + 1) 0 0 M_Mo_fewestOf 0 [some (.ref 33), some (.int (nI s)), some (.int (nI (hbN s))), none, none] [] _ _
  obtain ⟨q1, q2, q3, q4⟩ := hb_ok s hs h0
  have hl := top_bit q3 q4
  have hp : 2 ^ hbN s ≤ 2 ^ 5 := Nat.pow_le_pow_right (by omega) (by omega)
  have hE : ∀ r, OkR c s (hbN s) r → ∃ k, FwP c (s ^^^ r) k := by
    intro r hr
    have hrs := sub_le hr.2.1
    have h1 := row_xor s hs h0 r (by omega) ((sub_iff (by omega) hs).mpr hr.2.1) hr.1
    obtain ⟨k, -, hk⟩ := hI.2 (s ^^^ r) (by omega)
    exact ⟨k, hk⟩
  generalize hL : hbN s = l at q1 q2 q3 q4 hl hp hE
  have key : ∀ row, row ≤ s → ∀ m, (m = 6 ∨ ∃ r k, OkR c s l r ∧ FwP c (s ^^^ r) k ∧ m = 1 + k) → (m ≤ 6 ∧ ∀ r, row < r → OkR c s l r → ∀ k, FwP c (s ^^^ r) k → m ≤ 1 + k) → Run X (d + 1) 0 0 M_Mo_fewestOf 6 [some (.ref 33), some (.int (nI s)), some (.int (nI l)), some (.int (nI m)), some (.int (nI row))] [] (hX tx ca cb kt kd sd nw tr ac tu gi (fi, fe) dn ch s0 s1 ++ t) (fun r h2 => h2 = hX tx ca cb kt kd sd nw tr ac tu gi (fi, fe) dn ch s0 s1 ++ t ∧ ∃ k, r = some (.int (nI k)) ∧ FwP c s k) := by
    intro row
    induction row with
    | zero =>
      intro hrow m hA hB
      have hpp := Nat.two_pow_pos l
      refine Run.iload d_Mo_fewestOf_6 rfl ?_
      refine Run.iconst (v := nI 1) d_Mo_fewestOf_8 ic_1 ?_
      refine Run.iload_n d_Mo_fewestOf_9 rfl ?_
      first | refine Run.ishl_n d_Mo_fewestOf_10 (by omega) (by omega) ?_ | refine Run.ishl d_Mo_fewestOf_10 ?_
      rw [Nat.one_mul]
      first | refine Run.icmp_lt_n d_Mo_fewestOf_11 (by omega) (by omega) (fun c11 => ?_) (fun c11 => ?_) | refine Run.icmp_lt d_Mo_fewestOf_11 (fun c11 => ?_) (fun c11 => ?_)
      · refine Run.iload_n d_Mo_fewestOf_55 rfl ?_
        refine Run.iret d_Mo_fewestOf_56 rfl rfl ?_
        exact ⟨rfl, m, rfl, fw_step q2 hl q4 hE hA ⟨hB.1, fun r hr k hk => hB.2 r (by have := hr.1; omega) hr k hk⟩⟩
      · omega
    | succ row ih =>
      intro hrow m hA hB
      have hm6 := hB.1
      refine Run.iload d_Mo_fewestOf_6 rfl ?_
      refine Run.iconst (v := nI 1) d_Mo_fewestOf_8 ic_1 ?_
      refine Run.iload_n d_Mo_fewestOf_9 rfl ?_
      first | refine Run.ishl_n d_Mo_fewestOf_10 (by omega) (by omega) ?_ | refine Run.ishl d_Mo_fewestOf_10 ?_
      rw [Nat.one_mul]
      first | refine Run.icmp_lt_n d_Mo_fewestOf_11 (by omega) (by omega) (fun c11 => ?_) (fun c11 => ?_) | refine Run.icmp_lt d_Mo_fewestOf_11 (fun c11 => ?_) (fun c11 => ?_)
      · refine Run.iload_n d_Mo_fewestOf_55 rfl ?_
        refine Run.iret d_Mo_fewestOf_56 rfl rfl ?_
        exact ⟨rfl, m, rfl, fw_step q2 hl q4 hE hA ⟨hB.1, fun r hr k hk => hB.2 r (by have := hr.1; omega) hr k hk⟩⟩
      · refine Run.iload d_Mo_fewestOf_14 rfl ?_
        refine Run.iload_n d_Mo_fewestOf_16 rfl ?_
        refine Run.iconst (v := -1) d_Mo_fewestOf_17 ic_m1 ?_
        refine Run.ixor d_Mo_fewestOf_18 ?_
        refine Run.iand d_Mo_fewestOf_19 ?_
        rw [sub_dec (row + 1) (by omega) s hs]
        have hsb : (row + 1) &&& (s ^^^ 63) ≤ row + 1 := Nat.and_le_left
        first | refine Run.if_ne_b d_Mo_fewestOf_20 (fun c20 => ?_) (fun c20 => ?_) | refine Run.if_ne_n d_Mo_fewestOf_20 (by omega) (fun c20 => ?_) (fun c20 => ?_) | refine Run.if_ne d_Mo_fewestOf_20 (fun c20 => ?_) (fun c20 => ?_)
        · first | refine Run.iinc_d d_Mo_fewestOf_49 ic_m1 rfl rfl ?_ | refine Run.iinc d_Mo_fewestOf_49 rfl rfl rfl ?_
          show Run _ _ _ _ _ _ [_, _, _, _, _] _ _ _
          refine Run.goto d_Mo_fewestOf_52 ?_
          first
          | (refine ih (by omega) m hA ⟨hm6, fun r hr hok k hk => ?_⟩
             by_cases e : r = row + 1
             · subst e
               exact absurd ((sub_iff (by omega) hs).mpr hok.2.1) c20
             · exact hB.2 r (by omega) hok k hk)
          | (refine ih (by omega) m hA ⟨hm6, fun r hr hok k hk => ?_⟩
             by_cases e : r = row + 1
             · subst e
               rw [c30] at hb2
               exact absurd (hb2.mpr hok.2.2) (by decide)
             · exact hB.2 r (by omega) hok k hk)
          | (refine ih (by omega) (if 1 + k < m then 1 + k else m) ?_ ⟨?_, fun r hr hok2 k2 hk3 => ?_⟩
             · by_cases hq : 1 + k < m
               · rw [if_pos hq]; exact Or.inr ⟨row + 1, k, hok, hk2, rfl⟩
               · rw [if_neg hq]; exact hA
             · split <;> omega
             · by_cases e : r = row + 1
               · subst e
                 have := fw_uni hk2 hk3
                 split <;> omega
               · have := hB.2 r (by omega) hok2 k2 hk3
                 split <;> omega)
        · refine Run.aload_n d_Mo_fewestOf_23 rfl ?_
          refine Run.getf d_Mo_fewestOf_24 fl_Mo_9 (by first | rfl | assumption) (by rfl) ?_
          refine Run.iload d_Mo_fewestOf_27 rfl ?_
          refine Run.zald_n d_Mo_fewestOf_29 (by first | rfl | assumption) (by omega) (by omega) ?_
          obtain ⟨bb, hb1, hb2⟩ := hI.1 (row + 1) (by omega)
          rw [show (fi, fe).1 (row + 1) = bI bb from hb1]
          first | refine Run.if_eq_b d_Mo_fewestOf_30 (fun c30 => ?_) (fun c30 => ?_) | refine Run.if_eq_n d_Mo_fewestOf_30 (by omega) (fun c30 => ?_) (fun c30 => ?_) | refine Run.if_eq d_Mo_fewestOf_30 (fun c30 => ?_) (fun c30 => ?_)
          · first | refine Run.iinc_d d_Mo_fewestOf_49 ic_m1 rfl rfl ?_ | refine Run.iinc d_Mo_fewestOf_49 rfl rfl rfl ?_
            show Run _ _ _ _ _ _ [_, _, _, _, _] _ _ _
            refine Run.goto d_Mo_fewestOf_52 ?_
            first
            | (refine ih (by omega) m hA ⟨hm6, fun r hr hok k hk => ?_⟩
               by_cases e : r = row + 1
               · subst e
                 exact absurd ((sub_iff (by omega) hs).mpr hok.2.1) c20
               · exact hB.2 r (by omega) hok k hk)
            | (refine ih (by omega) m hA ⟨hm6, fun r hr hok k hk => ?_⟩
               by_cases e : r = row + 1
               · subst e
                 rw [c30] at hb2
                 exact absurd (hb2.mpr hok.2.2) (by decide)
               · exact hB.2 r (by omega) hok k hk)
            | (refine ih (by omega) (if 1 + k < m then 1 + k else m) ?_ ⟨?_, fun r hr hok2 k2 hk3 => ?_⟩
               · by_cases hq : 1 + k < m
                 · rw [if_pos hq]; exact Or.inr ⟨row + 1, k, hok, hk2, rfl⟩
                 · rw [if_neg hq]; exact hA
               · split <;> omega
               · by_cases e : r = row + 1
                 · subst e
                   have := fw_uni hk2 hk3
                   split <;> omega
                 · have := hB.2 r (by omega) hok2 k2 hk3
                   split <;> omega)
          · have hok : OkR c s l (row + 1) := ⟨c11, (sub_iff (by omega) hs).mp c20, hb2.mp c30⟩
            have hx := row_xor s hs h0 (row + 1) (by omega) c20 (by rw [hL]; exact c11)
            rw [hL] at hx
            obtain ⟨k, hk1, hk2⟩ := hI.2 (s ^^^ (row + 1)) (by omega)
            have hk6 := fw_le (n := 6) (show s ^^^ (row + 1) < 2 ^ 6 by omega) hk2
            refine Run.iload_n d_Mo_fewestOf_33 rfl ?_
            refine Run.iconst (v := nI 1) d_Mo_fewestOf_34 ic_1 ?_
            refine Run.aload_n d_Mo_fewestOf_35 rfl ?_
            refine Run.getf d_Mo_fewestOf_36 fl_Mo_15 (by first | rfl | assumption) (by rfl) ?_
            refine Run.iload_n d_Mo_fewestOf_39 rfl ?_
            refine Run.iload d_Mo_fewestOf_40 rfl ?_
            first | refine Run.ixor_n d_Mo_fewestOf_42 ?_ | refine Run.ixor d_Mo_fewestOf_42 ?_
            refine Run.iald_n d_Mo_fewestOf_43 (by first | rfl | assumption) (by omega) (by omega) ?_
            rw [show (fi, fe).2 (s ^^^ (row + 1)) = nI k from hk1]
            first | refine Run.iadd_n d_Mo_fewestOf_44 ?_ | refine Run.iadd d_Mo_fewestOf_44 ?_
            refine Run.mmin d_Mo_fewestOf_45 mm_Mo_52 (Nat.le_of_ble_eq_true rfl) ?_
            rw [min_n (by omega) (by omega)]
            refine Run.istore_n d_Mo_fewestOf_48 rfl rfl ?_
            show Run _ _ _ _ _ _ [_, _, _, _, _] _ _ _
            first | refine Run.iinc_d d_Mo_fewestOf_49 ic_m1 rfl rfl ?_ | refine Run.iinc d_Mo_fewestOf_49 rfl rfl rfl ?_
            show Run _ _ _ _ _ _ [_, _, _, _, _] _ _ _
            refine Run.goto d_Mo_fewestOf_52 ?_
            first
            | (refine ih (by omega) m hA ⟨hm6, fun r hr hok k hk => ?_⟩
               by_cases e : r = row + 1
               · subst e
                 exact absurd ((sub_iff (by omega) hs).mpr hok.2.1) c20
               · exact hB.2 r (by omega) hok k hk)
            | (refine ih (by omega) m hA ⟨hm6, fun r hr hok k hk => ?_⟩
               by_cases e : r = row + 1
               · subst e
                 rw [c30] at hb2
                 exact absurd (hb2.mpr hok.2.2) (by decide)
               · exact hB.2 r (by omega) hok k hk)
            | (refine ih (by omega) (if 1 + k < m then 1 + k else m) ?_ ⟨?_, fun r hr hok2 k2 hk3 => ?_⟩
               · by_cases hq : 1 + k < m
                 · rw [if_pos hq]; exact Or.inr ⟨row + 1, k, hok, hk2, rfl⟩
                 · rw [if_neg hq]; exact hA
               · split <;> omega
               · by_cases e : r = row + 1
                 · subst e
                   have := fw_uni hk2 hk3
                   split <;> omega
                 · have := hB.2 r (by omega) hok2 k2 hk3
                   split <;> omega)
  refine Run.bipush (v := nI 6) d_Mo_fewestOf_0 bp_6 ?_
  refine Run.istore_n d_Mo_fewestOf_2 rfl rfl ?_
  show Run _ _ _ _ _ _ [_, _, _, _, _] _ _ _
  refine Run.iload_n d_Mo_fewestOf_3 rfl ?_
  refine Run.istore d_Mo_fewestOf_4 rfl rfl ?_
  show Run _ _ _ _ _ _ [_, _, _, _, _] _ _ _
  exact key s (Nat.le_refl _) 6 (Or.inl rfl) ⟨by omega, fun r hr hok => by have := sub_le hok.2.1; omega⟩
theorem q_Mo_find (hc : coOK c) (ht : TR c ca cb kt kd) : Call X (d + 3) 0 0 M_Mo_find [.ref 33, .ref (kt + 1)] (hX tx ca cb kt kd sd nw tr ac tu gi (fi, fe) dn ch s0 s1 ++ t) (fun r h2 => r = none ∧ ∃ fi2 fe2, MoI c fi2 fe2 (2 ^ npC c) (2 ^ npC c) ∧ h2 = hX tx ca cb kt kd sd nw tr ac tu gi (fi2, fe2) dn ch s0 s1 ++ t) := by
  show Run X (d + 3) 0 0 M_Mo_find 0 [some (.ref 33), some (.ref (kt + 1)), none, none, none] [] _ _
  have b2 := hc.2.1
  have hN : 2 ^ npC c ≤ 64 := Nat.pow_le_pow_right (n := 2) (by omega) b2
  have hN1 := Nat.two_pow_pos (npC c)
  have hloop : ∀ q, q ≤ 2 ^ npC c → 1 ≤ q → ∀ (fi fe : FI) v3 v4, MoI c fi fe q q → Run X (d + 3) 0 0 M_Mo_find 16 [some (.ref 33), some (.ref (kt + 1)), some (.int (nI q)), v3, v4] [] (hX tx ca cb kt kd sd nw tr ac tu gi (fi, fe) dn ch s0 s1 ++ t) (fun r h2 => r = none ∧ ∃ fi2 fe2, MoI c fi2 fe2 (2 ^ npC c) (2 ^ npC c) ∧ h2 = hX tx ca cb kt kd sd nw tr ac tu gi (fi2, fe2) dn ch s0 s1 ++ t) := by
    refine upto (2 ^ npC c) (fun q => 1 ≤ q → ∀ (fi fe : FI) v3 v4, MoI c fi fe q q → Run X (d + 3) 0 0 M_Mo_find 16 [some (.ref 33), some (.ref (kt + 1)), some (.int (nI q)), v3, v4] [] (hX tx ca cb kt kd sd nw tr ac tu gi (fi, fe) dn ch s0 s1 ++ t) (fun r h2 => r = none ∧ ∃ fi2 fe2, MoI c fi2 fe2 (2 ^ npC c) (2 ^ npC c) ∧ h2 = hX tx ca cb kt kd sd nw tr ac tu gi (fi2, fe2) dn ch s0 s1 ++ t)) ?_
    intro q hq ih h1 fi fe v3 v4 hI
    have hco := TR.at (tx := tx) (sd := sd) (nw := nw) (tr := tr) (ac := ac) (tu := tu) (gi := gi) (mo := (fi, fe)) (dn := dn) (ch := ch) (s0 := s0) (s1 := s1) (t := t) ht
    obtain ⟨fhk, fpt, fan, fkd, fhd, li, g0, -⟩ := id hco
    have h72 : ∀ (b : Bool), q < 2 ^ npC c → (b = true ↔ RowP c q) → Run X (d + 3) 0 0 M_Mo_find 71 [some (.ref 33), some (.ref (kt + 1)), some (.int (nI q)), some (.int (nI (hbN q))), some (.int (nI (q ^^^ 2 ^ hbN q)))] [.int (bI b), .int (nI q), .ref 34] (hX tx ca cb kt kd sd nw tr ac tu gi (fi, fe) dn ch s0 s1 ++ t) (fun r h2 => r = none ∧ ∃ fi2 fe2, MoI c fi2 fe2 (2 ^ npC c) (2 ^ npC c) ∧ h2 = hX tx ca cb kt kd sd nw tr ac tu gi (fi2, fe2) dn ch s0 s1 ++ t) := by
      intro b hlt hb
      have hI2 : MoI c (upd fi q (bI b)) fe (q + 1) q := ⟨fun s hs => by
        by_cases e : s = q
        · subst e; exact ⟨b, pk_us, hb⟩
        · rw [pk_un e]; exact hI.1 s (by omega), hI.2⟩
      refine Run.zast_n d_Mo_find_71 (by first | rfl | assumption) (by omega) (by omega) (by first | exact bI_vnar _ | decide +kernel) ?_
      refine run_hp (show _ = hX tx ca cb kt kd sd nw tr ac tu gi ((upd fi q (bI b)), fe) dn ch s0 s1 ++ t from rfl) ?_
      refine Run.aload_n d_Mo_find_72 rfl ?_
      refine Run.getf d_Mo_find_73 fl_Mo_15 (by first | rfl | assumption) (by rfl) ?_
      refine Run.iload_n d_Mo_find_76 rfl ?_
      refine Run.aload_n d_Mo_find_77 rfl ?_
      refine Run.iload_n d_Mo_find_78 rfl ?_
      refine Run.iload_n d_Mo_find_79 rfl ?_
      refine Run.V2 d_Mo_find_80 lk_Mo_35 cm_Mo_fewestOf iv_Mo_fewestOf rfl (by first | rfl | assumption) (Nat.le_of_ble_eq_true rfl) (Nat.le_of_ble_eq_true rfl) (q_Mo_fewestOf (by omega) (by omega) hI2) (fun r80 h80 q80 => ?_)
      obtain ⟨rfl, k, rfl, hk⟩ := q80
      refine Run.iast_n d_Mo_find_83 (by first | rfl | assumption) (by omega) (by omega) ?_
      first | refine Run.iinc_n d_Mo_find_84 ic_1 rfl rfl ?_ | refine Run.iinc d_Mo_find_84 rfl rfl rfl ?_
      show Run _ _ _ _ _ _ [_, _, _, _, _] _ _ _
      refine Run.goto d_Mo_find_87 ?_
      refine ih hlt (by omega) (upd fi q (bI b)) (upd fe q (nI k)) _ _ ⟨hI2.1, fun s hs => ?_⟩
      by_cases e : s = q
      · subst e; exact ⟨k, pk_us, hk⟩
      · rw [pk_un e]; exact hI2.2 s (by omega)
    refine Run.iload_n d_Mo_find_16 rfl ?_
    refine Run.iconst (v := nI 1) d_Mo_find_17 ic_1 ?_
    refine Run.aload_n d_Mo_find_18 rfl ?_
    refine Run.getf d_Mo_find_19 fl_Mo_19 (by first | rfl | assumption) (by rfl) ?_
    first | refine Run.ishl_n d_Mo_find_22 (by omega) (by omega) ?_ | refine Run.ishl d_Mo_find_22 ?_
    rw [Nat.one_mul]
    first | refine Run.icmp_ge_n d_Mo_find_23 (by omega) (by omega) (fun c23 => ?_) (fun c23 => ?_) | refine Run.icmp_ge d_Mo_find_23 (fun c23 => ?_) (fun c23 => ?_)
    · refine Run.vret d_Mo_find_90 rfl ?_
      have e8 : q = 2 ^ npC c := by omega
      subst e8
      exact ⟨rfl, fi, fe, hI, rfl⟩
    · obtain ⟨w1, w2, w3, w4⟩ := hb_ok q (by omega) (by omega)
      have wl := top_bit w3 w4
      have wx := top_xor q (by omega) (by omega)
      have hln : hbN q < npC c := bit_lt c23 wl
      have hrs := row_step (c := c) wl w4 rfl
      obtain ⟨b0, hb1, hb2⟩ := hI.1 (q ^^^ 2 ^ hbN q) (by omega)
      have hp5 : 2 ^ hbN q ≤ 2 ^ 5 := Nat.pow_le_pow_right (by omega) (by omega)
      refine Run.bipush (v := nI 31) d_Mo_find_26 bp_31 ?_
      refine Run.iload_n d_Mo_find_28 rfl ?_
      refine Run.S1r d_Mo_find_29 lk_Mo_25 cm_In_numberOfLeadingZeros st_In_numberOfLeadingZeros (Nat.le_of_ble_eq_true rfl) (Nat.le_of_ble_eq_true rfl) (c_In_nlz (by omega) (by omega)) ?_
      first | refine Run.isub_n d_Mo_find_32 (by omega) ?_ | refine Run.isub d_Mo_find_32 ?_
      rw [show 31 - nlzN q = hbN q from rfl]
      refine Run.istore_n d_Mo_find_33 rfl rfl ?_
      show Run _ _ _ _ _ _ [_, _, _, _, _] _ _ _
      refine Run.iload_n d_Mo_find_34 rfl ?_
      refine Run.iconst (v := nI 1) d_Mo_find_35 ic_1 ?_
      refine Run.iload_n d_Mo_find_36 rfl ?_
      first | refine Run.ishl_n d_Mo_find_37 (by omega) (by omega) ?_ | refine Run.ishl d_Mo_find_37 ?_
      rw [Nat.one_mul]
      first | refine Run.ixor_n d_Mo_find_38 ?_ | refine Run.ixor d_Mo_find_38 ?_
      refine Run.istore d_Mo_find_39 rfl rfl ?_
      show Run _ _ _ _ _ _ [_, _, _, _, _] _ _ _
      refine Run.aload_n d_Mo_find_41 rfl ?_
      refine Run.getf d_Mo_find_42 fl_Mo_9 (by first | rfl | assumption) (by rfl) ?_
      refine Run.iload_n d_Mo_find_45 rfl ?_
      refine Run.aload_n d_Mo_find_46 rfl ?_
      refine Run.getf d_Mo_find_47 fl_Mo_9 (by first | rfl | assumption) (by rfl) ?_
      refine Run.iload d_Mo_find_50 rfl ?_
      refine Run.zald_n d_Mo_find_52 (by first | rfl | assumption) (by omega) (by omega) ?_
      rw [show (fi, fe).1 (q ^^^ 2 ^ hbN q) = bI b0 from hb1]
      first | refine Run.if_eq_b d_Mo_find_53 (fun c53 => ?_) (fun c53 => ?_) | refine Run.if_eq_n d_Mo_find_53 (by omega) (fun c53 => ?_) (fun c53 => ?_) | refine Run.if_eq d_Mo_find_53 (fun c53 => ?_) (fun c53 => ?_)
      · refine Run.iconst (v := nI 0) d_Mo_find_70 ic_0 ?_
        first
        | (refine h72 false c23 ?_
           rw [hrs]
           rw [c53] at hb2
           exact ⟨fun z => (by cases z), fun z => hb2.mpr z.1⟩)
        | (refine h72 false c23 ?_
           rw [hrs]
           rw [c63] at hb3
           exact ⟨fun z => (by cases z), fun z => hb3.mpr z.2⟩)
        | (refine h72 true c23 ?_
           rw [hrs]
           exact ⟨fun _ => ⟨hb2.mp c53, hb3.mp c63⟩, fun _ => rfl⟩)
      · refine Run.aload_n d_Mo_find_56 rfl ?_
        refine Run.iload_n d_Mo_find_57 rfl ?_
        refine Run.iload d_Mo_find_58 rfl ?_
        refine Run.S3 d_Mo_find_60 lk_Mo_31 cm_Mo_goesWith st_Mo_goesWith (Nat.le_of_ble_eq_true rfl) (Nat.le_of_ble_eq_true rfl) (c_Mo_goesWith hc hco hln (by omega)) (fun r60 h60 q60 => ?_)
        obtain ⟨rfl, b3, rfl, hb3⟩ := q60
        first | refine Run.if_eq_b d_Mo_find_63 (fun c63 => ?_) (fun c63 => ?_) | refine Run.if_eq_n d_Mo_find_63 (by omega) (fun c63 => ?_) (fun c63 => ?_) | refine Run.if_eq d_Mo_find_63 (fun c63 => ?_) (fun c63 => ?_)
        · refine Run.iconst (v := nI 0) d_Mo_find_70 ic_0 ?_
          first
          | (refine h72 false c23 ?_
             rw [hrs]
             rw [c53] at hb2
             exact ⟨fun z => (by cases z), fun z => hb2.mpr z.1⟩)
          | (refine h72 false c23 ?_
             rw [hrs]
             rw [c63] at hb3
             exact ⟨fun z => (by cases z), fun z => hb3.mpr z.2⟩)
          | (refine h72 true c23 ?_
             rw [hrs]
             exact ⟨fun _ => ⟨hb2.mp c53, hb3.mp c63⟩, fun _ => rfl⟩)
        · refine Run.iconst (v := nI 1) d_Mo_find_66 ic_1 ?_
          refine Run.goto d_Mo_find_67 ?_
          first
          | (refine h72 false c23 ?_
             rw [hrs]
             rw [c53] at hb2
             exact ⟨fun z => (by cases z), fun z => hb2.mpr z.1⟩)
          | (refine h72 false c23 ?_
             rw [hrs]
             rw [c63] at hb3
             exact ⟨fun z => (by cases z), fun z => hb3.mpr z.2⟩)
          | (refine h72 true c23 ?_
             rw [hrs]
             exact ⟨fun _ => ⟨hb2.mp c53, hb3.mp c63⟩, fun _ => rfl⟩)
  have hI1 : MoI c (upd fi 0 (bI true)) (upd fe 0 (nI 0)) 1 1 := ⟨fun s hs => by
    rw [show s = 0 by omega, pk_us]; exact ⟨true, rfl, fun _ => row_0 c, fun _ => rfl⟩, fun s hs => by
    rw [show s = 0 by omega, pk_us]; exact ⟨0, rfl, fw_0 c⟩⟩
  refine Run.aload_n d_Mo_find_0 rfl ?_
  refine Run.getf d_Mo_find_1 fl_Mo_9 (by first | rfl | assumption) (by rfl) ?_
  refine Run.iconst (v := nI 0) d_Mo_find_4 ic_0 ?_
  refine Run.iconst (v := nI 1) d_Mo_find_5 ic_1 ?_
  refine Run.zast_n d_Mo_find_6 (by first | rfl | assumption) (by omega) (by omega) (by first | exact bI_vnar _ | decide +kernel) ?_
  refine Run.aload_n d_Mo_find_7 rfl ?_
  refine Run.getf d_Mo_find_8 fl_Mo_15 (by first | rfl | assumption) (by rfl) ?_
  refine Run.iconst (v := nI 0) d_Mo_find_11 ic_0 ?_
  refine Run.iconst (v := nI 0) d_Mo_find_12 ic_0 ?_
  refine Run.iast_n d_Mo_find_13 (by first | rfl | assumption) (by omega) (by omega) ?_
  refine run_hp (show _ = hX tx ca cb kt kd sd nw tr ac tu gi ((upd fi 0 (bI true)), (upd fe 0 (nI 0))) dn ch s0 s1 ++ t from rfl) ?_
  refine Run.iconst (v := nI 1) d_Mo_find_14 ic_1 ?_
  refine Run.istore_n d_Mo_find_15 rfl rfl ?_
  show Run _ _ _ _ _ _ [_, _, _, _, _] _ _ _
  exact hloop 1 (by omega) (Nat.le_refl _) _ _ _ _ hI1
theorem q_PM_mothers (hc : coOK c) (ht : TR c ca cb kt kd) : Call X (d + 4) 0 0 M_PM_mothers [.ref 1] (hX tx ca cb kt kd sd nw tr ac tu gi (fi, fe) dn ch s0 s1 ++ t) (fun r h2 => (∃ k, r = some (.int (nI k)) ∧ FwP c (2 ^ npC c - 1) k) ∧ ∃ fi2 fe2, h2 = hX tx ca cb kt kd sd nw tr ac tu gi (fi2, fe2) dn ch s0 s1 ++ t) := by
  show Run X (d + 4) 0 0 M_PM_mothers 0 [some (.ref 1)] [] _ _
  have b2 := hc.2.1
  have hN : 2 ^ npC c ≤ 64 := Nat.pow_le_pow_right (n := 2) (by omega) b2
  have hN1 := Nat.two_pow_pos (npC c)
  refine Run.aload_n d_PM_mothers_0 rfl ?_
  refine Run.getf d_PM_mothers_1 fl_PM_64 (by first | rfl | assumption) (by rfl) ?_
  refine Run.aload_n d_PM_mothers_4 rfl ?_
  refine Run.getf d_PM_mothers_5 fl_PM_19 (by first | rfl | assumption) (by rfl) ?_
  refine Run.V1 d_PM_mothers_8 lk_PM_199 cm_Mo_find iv_Mo_find rfl (by first | rfl | assumption) (Nat.le_of_ble_eq_true rfl) (Nat.le_of_ble_eq_true rfl) (q_Mo_find hc ht) (fun r8 h8 q8 => ?_)
  obtain ⟨rfl, fi2, fe2, hI, rfl⟩ := q8
  obtain ⟨k, hk1, hk2⟩ := hI.2 (2 ^ npC c - 1) (by omega)
  have hco := TR.at (tx := tx) (sd := sd) (nw := nw) (tr := tr) (ac := ac) (tu := tu) (gi := gi) (mo := (fi2, fe2)) (dn := dn) (ch := ch) (s0 := s0) (s1 := s1) (t := t) ht
  obtain ⟨fhk, fpt, fan, fkd, fhd, li, g0, -⟩ := id hco
  refine Run.aload_n d_PM_mothers_11 rfl ?_
  refine Run.getf d_PM_mothers_12 fl_PM_64 (by first | rfl | assumption) (by rfl) ?_
  refine Run.getf d_PM_mothers_15 fl_PM_202 (by first | rfl | assumption) (by rfl) ?_
  refine Run.iconst (v := nI 1) d_PM_mothers_18 ic_1 ?_
  refine Run.aload_n d_PM_mothers_19 rfl ?_
  refine Run.getf d_PM_mothers_20 fl_PM_19 (by first | rfl | assumption) (by rfl) ?_
  refine Run.getf d_PM_mothers_23 fl_PM_101 (by first | rfl | assumption) (by rfl) ?_
  first | refine Run.ishl_n d_PM_mothers_26 (by omega) (by omega) ?_ | refine Run.ishl d_PM_mothers_26 ?_
  rw [Nat.one_mul]
  refine Run.iconst (v := nI 1) d_PM_mothers_27 ic_1 ?_
  first | refine Run.isub_n d_PM_mothers_28 (by omega) ?_ | refine Run.isub d_PM_mothers_28 ?_
  refine Run.iald_n d_PM_mothers_29 (by first | rfl | assumption) (by omega) (by omega) ?_
  rw [show (fi2, fe2).2 (2 ^ npC c - 1) = nI k from hk1]
  refine Run.iret d_PM_mothers_30 rfl rfl ?_
  exact ⟨⟨k, rfl, hk2⟩, fi2, fe2, rfl⟩
end MOTH
