/-! ===== shares ===== -/
/-- whether a piece shows to who holds it -/
def shN (c : CA) (p : PG) (i : Nat) : Bool := sh c i (pgW p i) (angN p i)
theorem or_bit {P : Nat → Prop} [∀ i, Decidable (P i)] {g : Nat → Nat} (t n : Nat) : (itN (fun i acc => if P i then acc ||| 2 ^ g i else acc) 0 n).testBit t = true ↔ ∃ i, i < n ∧ P i ∧ g i = t := by
  induction n with
  | zero =>
    constructor
    · intro q; simp [itN] at q
    · rintro ⟨i, hi, -⟩; omega
  | succ n ih =>
    show (if P n then itN _ 0 n ||| 2 ^ g n else itN _ 0 n).testBit t = true ↔ _
    by_cases hp : P n
    · rw [if_pos hp, Nat.testBit_or, Bool.or_eq_true, ih, Nat.testBit_two_pow, decide_eq_true_eq]
      constructor
      · rintro (⟨i, h1, h2, h3⟩ | h)
        · exact ⟨i, by omega, h2, h3⟩
        · exact ⟨n, by omega, hp, h⟩
      · rintro ⟨i, h1, h2, h3⟩
        by_cases hin : i = n
        · subst hin; exact Or.inr h3
        · exact Or.inl ⟨i, by omega, h2, h3⟩
    · rw [if_neg hp, ih]
      constructor
      · rintro ⟨i, h1, h2, h3⟩; exact ⟨i, by omega, h2, h3⟩
      · rintro ⟨i, h1, h2, h3⟩
        by_cases hin : i = n
        · subst hin; exact absurd h2 hp
        · exact ⟨i, by omega, h2, h3⟩
theorem or_bit2 {f : Nat → Nat} (t n : Nat) : (itN (fun j acc => acc ||| f j) 0 n).testBit t = true ↔ ∃ j, j < n ∧ (f j).testBit t = true := by
  induction n with
  | zero =>
    constructor
    · intro q; simp [itN] at q
    · rintro ⟨i, hi, -⟩; omega
  | succ n ih =>
    show (itN _ 0 n ||| f n).testBit t = true ↔ _
    rw [Nat.testBit_or, Bool.or_eq_true, ih]
    constructor
    · rintro (⟨i, h1, h2⟩ | h)
      · exact ⟨i, by omega, h2⟩
      · exact ⟨n, by omega, h⟩
    · rintro ⟨i, h1, h2⟩
      by_cases hin : i = n
      · subst hin; exact Or.inr h2
      · exact Or.inl ⟨i, by omega, h2⟩
theorem ses_bit {c : CA} {p : PG} {j s t : Nat} : (sesN c p j s).testBit t = true ↔ ∃ i, i < npC c ∧ (s.testBit i = true ∧ pgW p i = j ∧ sh c i j (angN p i) = true) ∧ ptC c i = t := or_bit t (npC c)
theorem tgs_bit {c : CA} {p : PG} {s t : Nat} (hp : pgOK c p) : (tgsN c p s).testBit t = true ↔ ∃ i, i < npC c ∧ s.testBit i = true ∧ shN c p i = true ∧ ptC c i = t := by
  rw [show tgsN c p s = itN (fun j acc => acc ||| sesN c p j s) 0 (nhC c) from rfl, or_bit2]
  constructor
  · rintro ⟨j, hj, h⟩
    obtain ⟨i, hi, ⟨h1, h2, h3⟩, h4⟩ := ses_bit.mp h
    exact ⟨i, hi, h1, by rw [shN, h2]; exact h3, h4⟩
  · rintro ⟨i, hi, h1, h2, h3⟩
    exact ⟨pgW p i, (hp.2.2 i hi).2, ses_bit.mpr ⟨i, hi, ⟨h1, rfl, h2⟩, h3⟩⟩
theorem tgsN_lt {c : CA} (hc : coOK c) (p : PG) (s : Nat) : tgsN c p s < 32 := by
  refine itN_inv (fun x => x < 32) (by decide) _ (fun i x hi hx => ?_)
  exact Nat.or_lt_two_pow (n := 5) hx (sesN_lt hc p i s)
theorem tgs_or {c : CA} {p : PG} {s i : Nat} (hp : pgOK c p) (hi : i < npC c) : tgsN c p (s ||| 2 ^ i) = if shN c p i = true then tgsN c p s ||| 2 ^ ptC c i else tgsN c p s := by
  apply Nat.eq_of_testBit_eq
  intro t
  rw [Bool.eq_iff_iff, tgs_bit hp]
  have key : (∃ k, k < npC c ∧ (s ||| 2 ^ i).testBit k = true ∧ shN c p k = true ∧ ptC c k = t) ↔ (tgsN c p s).testBit t = true ∨ (shN c p i = true ∧ ptC c i = t) := by
    rw [tgs_bit hp]
    constructor
    · rintro ⟨k, h1, h2, h3, h4⟩
      rw [Nat.testBit_or, Bool.or_eq_true, Nat.testBit_two_pow, decide_eq_true_eq] at h2
      rcases h2 with h2 | h2
      · exact Or.inl ⟨k, h1, h2, h3, h4⟩
      · subst h2; exact Or.inr ⟨h3, h4⟩
    · rintro (⟨k, h1, h2, h3, h4⟩ | ⟨h1, h2⟩)
      · exact ⟨k, h1, by rw [Nat.testBit_or, h2, Bool.true_or], h3, h4⟩
      · exact ⟨i, hi, by rw [Nat.testBit_or, Nat.testBit_two_pow, decide_eq_true rfl, Bool.or_true], h1, h2⟩
  rw [key]
  split
  · rename_i h
    rw [Nat.testBit_or, Bool.or_eq_true, Nat.testBit_two_pow, decide_eq_true_eq]
    simp [h]
  · rename_i h
    simp [h]
theorem many_or : ∀ m, m < 32 → ∀ t, t < 5 → manyN (m ||| 2 ^ t) = manyN m + (if m.testBit t = true then 0 else 1) := by decide +kernel
theorem many_le : ∀ n, n < 7 → ∀ i, i < n → ∀ s, s < 2 ^ n → s.testBit i = false → manyN s + 1 ≤ n := by decide +kernel
/-- pieces other than i that show the same part (bits) -/
def samN (c : CA) (p : PG) (i : Nat) : Nat := itN (fun j acc => if j ≠ i ∧ shN c p j = true ∧ ptC c j = ptC c i then acc ||| 2 ^ j else acc) 0 (npC c)
theorem sam_bit {c : CA} {p : PG} {i j : Nat} : (samN c p i).testBit j = true ↔ j < npC c ∧ j ≠ i ∧ shN c p j = true ∧ ptC c j = ptC c i := by
  rw [samN, or_bit (g := fun j => j)]
  constructor
  · rintro ⟨k, h1, h2, rfl⟩; exact ⟨h1, h2⟩
  · rintro ⟨h1, h2⟩; exact ⟨j, h1, h2, rfl⟩
theorem samN_lt (c : CA) (p : PG) (i : Nat) : samN c p i < 2 ^ npC c := by
  refine itN_inv (fun x => x < 2 ^ npC c) (Nat.two_pow_pos _) _ (fun j x hj hx => ?_)
  split
  · exact Nat.or_lt_two_pow hx (Nat.pow_lt_pow_right (by omega) hj)
  · exact hx
/-- a sum over rows of pieces without i -/
def shU (n i T : Nat) : Nat := itN (fun s acc => if s.testBit i = true then acc else acc + faN (manyN s) * faN (n - 1 - manyN s) * (if s &&& T = 0 then 1 else 0)) 0 (2 ^ n)
def shC (n : Nat) : Bool := (List.range n).all fun i => (List.range (2 ^ n)).all fun T => T.testBit i || decide (shU n i T * (manyN T + 1) = faN n)
theorem shC_ok : (List.range 7).all shC = true := by decide +kernel
theorem sh_sum {n i T : Nat} (hn : n < 7) (hi : i < n) (hT : T < 2 ^ n) (hb : T.testBit i = false) : shU n i T * (manyN T + 1) = faN n := by
  have h1 := List.all_eq_true.mp shC_ok n (List.mem_range.mpr hn)
  have h2 := List.all_eq_true.mp h1 i (List.mem_range.mpr hi)
  have h3 := List.all_eq_true.mp h2 T (List.mem_range.mpr hT)
  rw [hb, Bool.false_or] at h3
  exact of_decide_eq_true h3
theorem bit_and (T k : Nat) : T / 2 ^ k &&& 1 = if T.testBit k = true then 1 else 0 := by
  rw [Nat.testBit_eq_decide_div_mod_eq, Nat.and_one_is_mod]
  have : T / 2 ^ k % 2 = 0 ∨ T / 2 ^ k % 2 = 1 := by omega
  rcases this with q | q <;> simp [q]
theorem sam_many {c : CA} {p : PG} {i : Nat} (hc : coOK c) (hi : i < npC c) (hs : shN c p i = true) : manyN (samN c p i) + 1 = cntN c p (ptC c i) := by
  have hn := hc.2.1
  have k1 : ∀ n, n ≤ npC c → itN (manyF (samN c p i)) 0 n + (if i < n then 1 else 0) = itN (cntF c p (ptC c i)) 0 n := by
    intro n
    induction n with
    | zero => intro _; rfl
    | succ n ih =>
      intro hle
      have e := ih (by omega)
      show itN (manyF (samN c p i)) 0 n + (samN c p i / 2 ^ n &&& 1) + _ = (if ptC c n = ptC c i ∧ sh c n (pgW p n) (angN p n) = true then itN (cntF c p (ptC c i)) 0 n + 1 else itN (cntF c p (ptC c i)) 0 n)
      rw [bit_and, ← e]
      have hs1 : n = i → (if i < n + 1 then 1 else 0) = (if i < n then 1 else 0) + 1 := fun q => by rw [if_pos (show i < n + 1 by omega), if_neg (show ¬ i < n by omega)]
      have hs2 : ¬ n = i → (if i < n + 1 then 1 else 0) = (if i < n then 1 else 0) := fun q => by
        by_cases hlt : i < n
        · rw [if_pos hlt, if_pos (show i < n + 1 by omega)]
        · rw [if_neg hlt, if_neg (show ¬ i < n + 1 by omega)]
      generalize (if i < n + 1 then 1 else 0) = g1 at hs1 hs2 ⊢
      generalize (if i < n then 1 else 0) = g0 at hs1 hs2 ⊢
      by_cases hin : n = i
      · have h1 : ¬ (samN c p i).testBit n = true := fun q => (sam_bit.mp q).2.1 hin
        rw [if_neg h1, if_pos (show ptC c n = ptC c i ∧ sh c n (pgW p n) (angN p n) = true from ⟨by rw [hin], by rw [hin]; exact hs⟩), hs1 hin]
        omega
      · rw [hs2 hin]
        by_cases hb : (samN c p i).testBit n = true
        · have h3 := sam_bit.mp hb
          rw [if_pos hb, if_pos (show ptC c n = ptC c i ∧ sh c n (pgW p n) (angN p n) = true from ⟨h3.2.2.2, h3.2.2.1⟩)]
          omega
        · rw [if_neg hb, if_neg (show ¬ (ptC c n = ptC c i ∧ sh c n (pgW p n) (angN p n) = true) from fun z => hb (sam_bit.mpr ⟨by omega, hin, z.2, z.1⟩))]
          omega
  have k2 : ∀ n, npC c ≤ n → itN (manyF (samN c p i)) 0 n = itN (manyF (samN c p i)) 0 (npC c) := by
    intro n
    induction n with
    | zero => intro h; rw [show npC c = 0 by omega]
    | succ n ih =>
      intro h
      by_cases he : npC c = n + 1
      · rw [he]
      · show itN (manyF (samN c p i)) 0 n + (samN c p i / 2 ^ n &&& 1) = _
        have hb : ¬ (samN c p i).testBit n = true := fun q => by have := (sam_bit.mp q).1; omega
        rw [bit_and, if_neg hb, ih (by omega), Nat.add_zero]
  have e1 := k1 (npC c) (Nat.le_refl _)
  rw [if_pos hi] at e1
  rw [manyN, k2 6 hn]
  exact e1
/-- what the reference adds up -/
def shV (c : CA) (p : PG) (i : Nat) : Nat → Nat → Nat := fun s acc => if s.testBit i = true then acc else acc + faN (manyN s) * faN (npC c - 1 - manyN s) * (manyN (tgsN c p (s ||| 2 ^ i)) - manyN (tgsN c p s))
theorem many_up {c : CA} {p : PG} {i s : Nat} (hc : coOK c) (hp : pgOK c p) (hi : i < npC c) : manyN (tgsN c p (s ||| 2 ^ i)) = manyN (tgsN c p s) + (if shN c p i = true ∧ ¬ (tgsN c p s).testBit (ptC c i) = true then 1 else 0) := by
  rw [tgs_or hp hi]
  by_cases h : shN c p i = true
  · rw [if_pos h, many_or _ (tgsN_lt hc p s) _ (hc.2.2.2 i hi).1]
    by_cases h2 : (tgsN c p s).testBit (ptC c i) = true
    · rw [if_pos h2, if_neg (fun z => z.2 h2)]
    · rw [if_neg h2, if_pos ⟨h, h2⟩]
  · rw [if_neg h, if_neg (fun z => h z.1), Nat.add_zero]
theorem sh_0 {c : CA} {p : PG} {i : Nat} (hc : coOK c) (hp : pgOK c p) (hi : i < npC c) (h : ¬ shN c p i = true) (n : Nat) : itN (shV c p i) 0 n = 0 := by
  induction n with
  | zero => rfl
  | succ n ih =>
    show shV c p i n _ = 0
    rw [ih, shV]
    split
    · rfl
    · rw [many_up hc hp hi, if_neg (fun z => h z.1), Nat.add_zero, Nat.sub_self, Nat.mul_zero]
theorem sh_1 {c : CA} {p : PG} {i : Nat} (hc : coOK c) (hp : pgOK c p) (hi : i < npC c) (h : shN c p i = true) : itN (shV c p i) 0 (2 ^ npC c) = shU (npC c) i (samN c p i) := by
  refine itN_congr _ (fun s x hs => ?_)
  rw [shV]
  by_cases hb : s.testBit i = true
  · rw [if_pos hb, if_pos hb]
  · rw [if_neg hb, if_neg hb, many_up hc hp hi, Nat.add_sub_cancel_left]
    have key : (shN c p i = true ∧ ¬ (tgsN c p s).testBit (ptC c i) = true) ↔ s &&& samN c p i = 0 := by
      constructor
      · rintro ⟨-, h2⟩
        apply Nat.eq_of_testBit_eq
        intro t
        rw [Nat.testBit_and, Nat.zero_testBit]
        by_cases h3 : s.testBit t = true
        · by_cases h4 : (samN c p i).testBit t = true
          · have h5 := sam_bit.mp h4
            exact absurd ((tgs_bit hp).mpr ⟨t, h5.1, h3, h5.2.2.1, h5.2.2.2⟩) h2
          · rw [Bool.eq_false_iff.mpr h4, Bool.and_false]
        · rw [Bool.eq_false_iff.mpr h3, Bool.false_and]
      · intro h2
        refine ⟨h, fun q => ?_⟩
        obtain ⟨k, h3, h4, h5, h6⟩ := (tgs_bit hp).mp q
        have hki : k ≠ i := fun e => by subst e; exact hb h4
        have h7 : (samN c p i).testBit k = true := sam_bit.mpr ⟨h3, hki, h5, h6⟩
        have h8 : (s &&& samN c p i).testBit k = true := by rw [Nat.testBit_and, h4, h7]; rfl
        rw [h2, Nat.zero_testBit] at h8
        cases h8
    by_cases hk : s &&& samN c p i = 0
    · rw [if_pos (key.mpr hk), if_pos hk]
    · rw [if_neg (fun z => hk (key.mp z)), if_neg hk]
theorem frN_0 {b : Nat} (hb : 0 < b) (u : Bool) : frN 0 b u = frN 0 1 u := by
  cases u
  · simp [frN, Nat.div_self hb]
  · simp [frN]
theorem frN_k {a k : Nat} (ha : 0 < a) (u : Bool) : frN a (a * k) u = frN 1 k u := by
  have e1 : Nat.gcd a (a * k) = a := Nat.gcd_eq_left (Nat.dvd_mul_right a k)
  have e2 : Nat.gcd 1 k = 1 := Nat.gcd_one_left k
  cases u
  · simp only [frN, e1, e2, Nat.div_one, Bool.false_eq_true, if_false]
    exact Nat.mul_div_cancel_left k ha
  · simp only [frN, e1, e2, if_true, Nat.div_self ha, Nat.div_one]
theorem faN_pos (n : Nat) : 0 < faN n := by
  induction n with
  | zero => decide
  | succ n ih => exact Nat.mul_pos ih (by omega)
theorem faN_le : ∀ n, n < 7 → faN n ≤ 720 := by decide
def shareR (c : CA) (p : PG) (x : Int32) (u : Bool) : Int32 := if inB x (npC c) = true then nI (if shN c p (tn x) = true then frN 1 (cntN c p (ptC c (tn x))) u else frN 0 1 u) else -1
theorem sh_fin {c : CA} {p : PG} {i : Nat} (hc : coOK c) (hp : pgOK c p) (hi : i < npC c) (u : Bool) : itN (shV c p i) 0 (2 ^ npC c) ≤ 720 ∧ frN (itN (shV c p i) 0 (2 ^ npC c)) (faN (npC c)) u = if shN c p i = true then frN 1 (cntN c p (ptC c i)) u else frN 0 1 u := by
  have hn := hc.2.1
  by_cases h : shN c p i = true
  · have hb : (samN c p i).testBit i = false := Bool.eq_false_iff.mpr (fun q => (sam_bit.mp q).2.1 rfl)
    have h1 := sh_sum (by omega) hi (samN_lt c p i) hb
    rw [sam_many hc hi h] at h1
    rw [if_pos h, sh_1 hc hp hi h]
    have h2 := faN_pos (npC c)
    have h3 := faN_le (npC c) (by omega)
    have h4 : 0 < shU (npC c) i (samN c p i) := by
      rcases Nat.eq_zero_or_pos (shU (npC c) i (samN c p i)) with q | q
      · rw [q, Nat.zero_mul] at h1; omega
      · exact q
    have h5 : 0 < cntN c p (ptC c i) := by
      rcases Nat.eq_zero_or_pos (cntN c p (ptC c i)) with q | q
      · rw [q, Nat.mul_zero] at h1; omega
      · exact q
    have h6 := Nat.le_mul_of_pos_right (shU (npC c) i (samN c p i)) h5
    refine ⟨by omega, ?_⟩
    rw [← h1, frN_k h4]
  · rw [if_neg h, sh_0 hc hp hi h]
    exact ⟨by omega, frN_0 (faN_pos _) u⟩
section SHARE
variable {X : Nat × (Nat → Int32)} {d : Nat} {c : CA} {p : PG} {f0 : Nat → AC} {nu : NuS} {tx ho pi rh rp pg tr bk kp ik ta tp ga gr va rw : FI} {h : AH}
theorem c_PM_share {x : Int32} {u : Bool} (hc : coOK c) (hp : pgOK c p) (ht : TlAt h c) (hst : StAt h 15 c p) : Call X (d + 6) 0 0 M_PM_share [.ref 1, .int x, .int (bI u)] h (Ret (.int (shareR c p x u)) h) := by
  show Run X (d + 6) 0 0 M_PM_share 0 [some (.ref 1), some (.int x), some (.int (bI u))] [] h _
  obtain ⟨kt, kd, sd, h0, hco⟩ := id ht
  obtain ⟨fhk, fpt, fan, fkd, fhd, li, g0, g1, g2, g3, g4, g5, hv1, hv2⟩ := id hco
  obtain ⟨ft, fw, ke, s0, s1, s2, hw⟩ := id hst
  have b1 := hc.1
  have b2 := hc.2.1
  refine Run.aload_n d_PM_share_0 rfl ?_
  refine Run.getf d_PM_share_1 fl_PM_19 (by first | rfl | assumption) (by rfl) ?_
  refine Run.iload_n d_PM_share_4 rfl ?_
  refine Run.V1r d_PM_share_5 lk_PM_133 cm_Co_hasPiece iv_Co_hasPiece rfl (by first | rfl | assumption) (Nat.le_of_ble_eq_true rfl) (Nat.le_of_ble_eq_true rfl) (c_Co_hasPiece hco) ?_
  first | refine Run.if_ne_b d_PM_share_8 (fun c8 => ?_) (fun c8 => ?_) | refine Run.if_ne_n d_PM_share_8 (by omega) (fun c8 => ?_) (fun c8 => ?_) | refine Run.if_ne d_PM_share_8 (fun c8 => ?_) (fun c8 => ?_)
  · obtain ⟨i, hi, rfl⟩ := inB_t (by omega) c8
    have ti : tn (nI i) = i := tn_nI (by omega)
    have w1 := (hp.2.2 i hi).2
    have w2 := (hc.2.2.2 i hi).1
    have w3 := cntN_le c p (ptC c i) (npC c)
    refine Run.aload_n d_PM_share_13 rfl ?_
    refine Run.aload_n d_PM_share_14 rfl ?_
    refine Run.getf d_PM_share_15 fl_PM_29 (by first | rfl | assumption) (by rfl) ?_
    refine Run.iload_n d_PM_share_18 rfl ?_
    refine Run.aload_n d_PM_share_19 rfl ?_
    refine Run.getf d_PM_share_20 fl_PM_29 (by first | rfl | assumption) (by rfl) ?_
    refine Run.getf d_PM_share_23 fl_PM_148 (by first | rfl | assumption) (by rfl) ?_
    refine Run.iload_n d_PM_share_26 rfl ?_
    refine Run.iald_n d_PM_share_27 (by first | rfl | assumption) (by omega) (by omega) ?_
    rw [(hw i hi).2]
    refine Run.iconst (v := nI 0) d_PM_share_28 ic_0 ?_
    refine Run.V4r d_PM_share_29 lk_PM_154 cm_PM_showsAfter iv_PM_showsAfter rfl (by first | rfl | assumption) (Nat.le_of_ble_eq_true rfl) (Nat.le_of_ble_eq_true rfl) (c_PM_showsAfter hc hp ht hst hi (by omega)) ?_
    rw [m8_nI, decide_eq_true w1, Bool.true_and, show (angN p i + 0 % 8) % 8 = angN p i by rw [angN]; omega, show sh c i (pgW p i) (angN p i) = shN c p i from rfl]
    first | refine Run.if_ne_b d_PM_share_32 (fun c32 => ?_) (fun c32 => ?_) | refine Run.if_ne_n d_PM_share_32 (by omega) (fun c32 => ?_) (fun c32 => ?_) | refine Run.if_ne d_PM_share_32 (fun c32 => ?_) (fun c32 => ?_)
    · refine Run.iconst (v := nI 1) d_PM_share_42 ic_1 ?_
      refine Run.aload_n d_PM_share_43 rfl ?_
      refine Run.aload_n d_PM_share_44 rfl ?_
      refine Run.getf d_PM_share_45 fl_PM_19 (by first | rfl | assumption) (by rfl) ?_
      refine Run.getf d_PM_share_48 fl_PM_136 (by first | rfl | assumption) (by rfl) ?_
      refine Run.iload_n d_PM_share_51 rfl ?_
      refine Run.iald_n d_PM_share_52 (by first | rfl | assumption) (by omega) (by omega) ?_
      rw [(hv2 i hi).1]
      refine Run.V1r d_PM_share_53 lk_PM_231 cm_PM_piecesThatShow iv_PM_piecesThatShow rfl (by first | rfl | assumption) (Nat.le_of_ble_eq_true rfl) (Nat.le_of_ble_eq_true rfl) (c_PM_piecesThatShow hc hp ht hst (by omega)) ?_
      refine Run.iload_n d_PM_share_56 rfl ?_
      refine Run.S3r d_PM_share_57 lk_PM_227 cm_PM_inLeastTerms st_PM_inLeastTerms (Nat.le_of_ble_eq_true rfl) (Nat.le_of_ble_eq_true rfl) (c_PM_inLeastTerms (by omega) (by rw [← sam_many hc hi c32]; omega) (by show itN (cntF c p (ptC c i)) 0 (npC c) ≤ _; omega)) ?_
      refine Run.iret d_PM_share_60 rfl rfl ?_
      exact ret_i (by rw [shareR, if_pos c8, ti, if_pos c32])
    · refine Run.iconst (v := nI 0) d_PM_share_35 ic_0 ?_
      refine Run.iconst (v := nI 1) d_PM_share_36 ic_1 ?_
      refine Run.iload_n d_PM_share_37 rfl ?_
      refine Run.S3r d_PM_share_38 lk_PM_227 cm_PM_inLeastTerms st_PM_inLeastTerms (Nat.le_of_ble_eq_true rfl) (Nat.le_of_ble_eq_true rfl) (c_PM_inLeastTerms (by omega) (by omega) (by omega)) ?_
      refine Run.iret d_PM_share_41 rfl rfl ?_
      exact ret_i (by rw [shareR, if_pos c8, ti, if_neg (by rw [c32]; decide)])
  · refine Run.iconst (v := -1) d_PM_share_11 ic_m1 ?_
    refine Run.iret d_PM_share_12 rfl rfl ?_
    exact ret_i (by rw [shareR, if_neg (by rw [c8]; decide)])
theorem r_share56 {i : Nat} {u : Bool} {v5 : Option Value} (hc : coOK c) (hp : pgOK c p) (hr : RfR c nu.2.2.1 nu.2.2.2.1 ho pi) (hg : PgV c p pg) (hi : i < npC c) (hva : ∀ s, s < 2 ^ npC c → va s = nI (manyN (tgsN c p s))) : Run X (d + 7) 0 0 M_Rf_share 56 [some (.ref 44), some (.int (nI i)), some (.int (bI u)), some (.int (nI 0)), some (.int (nI 0)), v5] [] (PX f0 ++ hM nu tx ho pi rh rp pg tr bk kp ik ta tp ga gr va rw) (fun r h2 => r = some (.int (nI (if shN c p i = true then frN 1 (cntN c p (ptC c i)) u else frN 0 1 u))) ∧ ∃ v2, h2 = PX f0 ++ hM nu tx ho pi rh rp pg tr bk kp ik ta tp ga gr v2 rw) := by
  have b2 := hc.2.1
  have hN : 2 ^ npC c ≤ 64 := Nat.pow_le_pow_right (n := 2) (by omega) b2
  have hiN : 2 ^ i < 2 ^ npC c := Nat.pow_lt_pow_right (by omega) hi
  have hf := sh_fin hc hp hi u
  have hfa := faN_pos (npC c)
  have hfl := faN_le (npC c) (by omega)
  refine upto (2 ^ npC c) (fun s => ∀ v5, Run X (d + 7) 0 0 M_Rf_share 56 [some (.ref 44), some (.int (nI i)), some (.int (bI u)), some (.int (nI (itN (shV c p i) 0 s))), some (.int (nI s)), v5] [] (PX f0 ++ hM nu tx ho pi rh rp pg tr bk kp ik ta tp ga gr va rw) (fun r h2 => r = some (.int (nI (if shN c p i = true then frN 1 (cntN c p (ptC c i)) u else frN 0 1 u))) ∧ ∃ v2, h2 = PX f0 ++ hM nu tx ho pi rh rp pg tr bk kp ik ta tp ga gr v2 rw)) ?_ 0 (Nat.zero_le _) v5
  intro s hs ih v5
  have hrf := RfR.at (f0 := f0) (tx := tx) (rh := rh) (rp := rp) (pg := pg) (tr := tr) (bk := bk) (kp := kp) (ik := ik) (ta := ta) (tp := tp) (ga := ga) (gr := gr) (va := va) (rw := rw) hr
  refine Run.iload d_Rf_share_56 rfl ?_
  refine Run.iconst (v := nI 1) d_Rf_share_58 ic_1 ?_
  refine Run.aload_n d_Rf_share_59 rfl ?_
  refine Run.getf d_Rf_share_60 fl_Rf_70 (by first | rfl | assumption) (by rfl) ?_
  rw [hr.2.1]
  first | refine Run.ishl_n d_Rf_share_63 (by omega) (by omega) ?_ | refine Run.ishl d_Rf_share_63 ?_
  rw [Nat.one_mul]
  first | refine Run.icmp_ge_n d_Rf_share_64 (by omega) (by omega) (fun c64 => ?_) (fun c64 => ?_) | refine Run.icmp_ge d_Rf_share_64 (fun c64 => ?_) (fun c64 => ?_)
  · have e8 : s = 2 ^ npC c := by omega
    subst e8
    have hf1 := hf.1
    refine Run.iload_n d_Rf_share_130 rfl ?_
    refine Run.aload_n d_Rf_share_131 rfl ?_
    refine Run.getf d_Rf_share_132 fl_Rf_70 (by first | rfl | assumption) (by rfl) ?_
    rw [hr.2.1]
    refine Run.S1r d_Rf_share_135 lk_Rf_210 cm_Rf_ways st_Rf_ways (Nat.le_of_ble_eq_true rfl) (Nat.le_of_ble_eq_true rfl) (c_Rf_ways (by omega)) ?_
    refine Run.iload_n d_Rf_share_138 rfl ?_
    refine Run.S3r d_Rf_share_139 lk_Rf_213 cm_Rf_fraction st_Rf_fraction (Nat.le_of_ble_eq_true rfl) (Nat.le_of_ble_eq_true rfl) (c_Rf_fraction (by omega) hfa (by omega)) ?_
    refine Run.iret d_Rf_share_142 rfl rfl ?_
    exact ⟨by rw [hf.2], va, rfl⟩
  · refine Run.iload d_Rf_share_67 rfl ?_
    refine Run.iload_n d_Rf_share_69 rfl ?_
    refine Run.S2r d_Rf_share_70 lk_Rf_127 cm_Rf_has st_Rf_has (Nat.le_of_ble_eq_true rfl) (Nat.le_of_ble_eq_true rfl) (c_Rf_has (by omega) (by omega)) ?_
    first | refine Run.if_ne_b d_Rf_share_73 (fun c73 => ?_) (fun c73 => ?_) | refine Run.if_ne_n d_Rf_share_73 (by omega) (fun c73 => ?_) (fun c73 => ?_) | refine Run.if_ne d_Rf_share_73 (fun c73 => ?_) (fun c73 => ?_)
    · first | refine Run.iinc_n d_Rf_share_124 ic_1 rfl rfl ?_ | refine Run.iinc d_Rf_share_124 rfl rfl rfl ?_
      show Run _ _ _ _ _ _ [_, _, _, _, _, _] _ _ _
      refine Run.goto d_Rf_share_127 ?_
      first
      | (have q1 : itN (shV c p i) 0 (s + 1) = itN (shV c p i) 0 s := by
           show shV c p i s _ = _
           rw [shV, if_pos c73]
         have q2 := ih c64 v5
         rw [q1] at q2
         exact q2)
      | exact ih c64 _
    · have hml := many_le (npC c) (by omega) i hi s c64 c73
      have hor : s ||| 2 ^ i < 2 ^ npC c := Nat.or_lt_two_pow c64 hiN
      have hmu := many_up (s := s) hc hp hi
      have hst : itN (shV c p i) 0 (s + 1) = itN (shV c p i) 0 s + faN (manyN s) * faN (npC c - 1 - manyN s) * (manyN (tgsN c p (s ||| 2 ^ i)) - manyN (tgsN c p s)) := by
        show shV c p i s _ = _
        rw [shV, if_neg (by rw [c73]; decide)]
      refine Run.iload d_Rf_share_76 rfl ?_
      refine Run.S1r d_Rf_share_78 lk_Rf_195 cm_Rf_many st_Rf_many (Nat.le_of_ble_eq_true rfl) (Nat.le_of_ble_eq_true rfl) (c_Rf_many (by omega)) ?_
      refine Run.istore d_Rf_share_81 rfl rfl ?_
      show Run _ _ _ _ _ _ [_, _, _, _, _, _] _ _ _
      refine Run.iload_n d_Rf_share_83 rfl ?_
      refine Run.iload d_Rf_share_84 rfl ?_
      refine Run.S1r d_Rf_share_86 lk_Rf_210 cm_Rf_ways st_Rf_ways (Nat.le_of_ble_eq_true rfl) (Nat.le_of_ble_eq_true rfl) (c_Rf_ways (by omega)) ?_
      refine Run.aload_n d_Rf_share_89 rfl ?_
      refine Run.getf d_Rf_share_90 fl_Rf_70 (by first | rfl | assumption) (by rfl) ?_
      rw [hr.2.1]
      refine Run.iconst (v := nI 1) d_Rf_share_93 ic_1 ?_
      first | refine Run.isub_n d_Rf_share_94 (by omega) ?_ | refine Run.isub d_Rf_share_94 ?_
      refine Run.iload d_Rf_share_95 rfl ?_
      first | refine Run.isub_n d_Rf_share_97 (by omega) ?_ | refine Run.isub d_Rf_share_97 ?_
      refine Run.S1r d_Rf_share_98 lk_Rf_210 cm_Rf_ways st_Rf_ways (Nat.le_of_ble_eq_true rfl) (Nat.le_of_ble_eq_true rfl) (c_Rf_ways (by omega)) ?_
      first | refine Run.imul_n d_Rf_share_101 ?_ | refine Run.imul d_Rf_share_101 ?_
      refine Run.aload_n d_Rf_share_102 rfl ?_
      refine Run.getf d_Rf_share_103 fl_Rf_53 (by first | rfl | assumption) (by rfl) ?_
      refine Run.iload d_Rf_share_106 rfl ?_
      refine Run.iconst (v := nI 1) d_Rf_share_108 ic_1 ?_
      refine Run.iload_n d_Rf_share_109 rfl ?_
      first | refine Run.ishl_n d_Rf_share_110 (by omega) (by omega) ?_ | refine Run.ishl d_Rf_share_110 ?_
      rw [Nat.one_mul]
      first | refine Run.ior_n d_Rf_share_111 ?_ | refine Run.ior d_Rf_share_111 ?_
      refine Run.iald_n d_Rf_share_112 (by first | rfl | assumption) (by omega) (by omega) ?_
      rw [hva _ hor]
      refine Run.aload_n d_Rf_share_113 rfl ?_
      refine Run.getf d_Rf_share_114 fl_Rf_53 (by first | rfl | assumption) (by rfl) ?_
      refine Run.iload d_Rf_share_117 rfl ?_
      refine Run.iald_n d_Rf_share_119 (by first | rfl | assumption) (by omega) (by omega) ?_
      rw [hva s c64]
      first | refine Run.isub_n d_Rf_share_120 (by omega) ?_ | refine Run.isub d_Rf_share_120 ?_
      first | refine Run.imul_n d_Rf_share_121 ?_ | refine Run.imul d_Rf_share_121 ?_
      first | refine Run.iadd_n d_Rf_share_122 ?_ | refine Run.iadd d_Rf_share_122 ?_
      refine Run.istore_n d_Rf_share_123 rfl rfl ?_
      show Run _ _ _ _ _ _ [_, _, _, _, _, _] _ _ _
      rw [← hst]
      first | refine Run.iinc_n d_Rf_share_124 ic_1 rfl rfl ?_ | refine Run.iinc d_Rf_share_124 rfl rfl rfl ?_
      show Run _ _ _ _ _ _ [_, _, _, _, _, _] _ _ _
      refine Run.goto d_Rf_share_127 ?_
      first
      | (have q1 : itN (shV c p i) 0 (s + 1) = itN (shV c p i) 0 s := by
           show shV c p i s _ = _
           rw [shV, if_pos c73]
         have q2 := ih c64 v5
         rw [q1] at q2
         exact q2)
      | exact ih c64 _
theorem r_share17 {i : Nat} {u : Bool} (hc : coOK c) (hp : pgOK c p) (hr : RfR c nu.2.2.1 nu.2.2.2.1 ho pi) (hg : PgV c p pg) (hi : i < npC c) : Run X (d + 7) 0 0 M_Rf_share 17 [some (.ref 44), some (.int (nI i)), some (.int (bI u)), some (.int (nI 0)), none, none] [] (PX f0 ++ hM nu tx ho pi rh rp pg tr bk kp ik ta tp ga gr va rw) (fun r h2 => r = some (.int (nI (if shN c p i = true then frN 1 (cntN c p (ptC c i)) u else frN 0 1 u))) ∧ ∃ v2, h2 = PX f0 ++ hM nu tx ho pi rh rp pg tr bk kp ik ta tp ga gr v2 rw) := by
  have b2 := hc.2.1
  have hN : 2 ^ npC c ≤ 64 := Nat.pow_le_pow_right (n := 2) (by omega) b2
  refine upto (2 ^ npC c) (fun s => ∀ va : FI, (∀ q, q < s → va q = nI (manyN (tgsN c p q))) → Run X (d + 7) 0 0 M_Rf_share 17 [some (.ref 44), some (.int (nI i)), some (.int (bI u)), some (.int (nI s)), none, none] [] (PX f0 ++ hM nu tx ho pi rh rp pg tr bk kp ik ta tp ga gr va rw) (fun r h2 => r = some (.int (nI (if shN c p i = true then frN 1 (cntN c p (ptC c i)) u else frN 0 1 u))) ∧ ∃ v2, h2 = PX f0 ++ hM nu tx ho pi rh rp pg tr bk kp ik ta tp ga gr v2 rw)) ?_ 0 (Nat.zero_le _) va (fun q hq => by omega)
  intro s hs ih va he
  have w1 := tgsN_lt hc p s
  refine Run.iload_n d_Rf_share_17 rfl ?_
  refine Run.iconst (v := nI 1) d_Rf_share_18 ic_1 ?_
  refine Run.aload_n d_Rf_share_19 rfl ?_
  refine Run.getf d_Rf_share_20 fl_Rf_70 (by first | rfl | assumption) (by rfl) ?_
  rw [hr.2.1]
  first | refine Run.ishl_n d_Rf_share_23 (by omega) (by omega) ?_ | refine Run.ishl d_Rf_share_23 ?_
  rw [Nat.one_mul]
  first | refine Run.icmp_ge_n d_Rf_share_24 (by omega) (by omega) (fun c24 => ?_) (fun c24 => ?_) | refine Run.icmp_ge d_Rf_share_24 (fun c24 => ?_) (fun c24 => ?_)
  · refine Run.iconst (v := nI 0) d_Rf_share_51 ic_0 ?_
    refine Run.istore_n d_Rf_share_52 rfl rfl ?_
    show Run _ _ _ _ _ _ [_, _, _, _, _, _] _ _ _
    refine Run.iconst (v := nI 0) d_Rf_share_53 ic_0 ?_
    refine Run.istore d_Rf_share_54 rfl rfl ?_
    show Run _ _ _ _ _ _ [_, _, _, _, _, _] _ _ _
    exact r_share56 hc hp hr hg hi (fun q hq => he q (by omega))
  · refine Run.aload_n d_Rf_share_27 rfl ?_
    refine Run.getf d_Rf_share_28 fl_Rf_53 (by first | rfl | assumption) (by rfl) ?_
    refine Run.iload_n d_Rf_share_31 rfl ?_
    refine Run.aload_n d_Rf_share_32 rfl ?_
    refine Run.aload_n d_Rf_share_33 rfl ?_
    refine Run.getf d_Rf_share_34 fl_Rf_25 (by first | rfl | assumption) (by rfl) ?_
    refine Run.iload_n d_Rf_share_37 rfl ?_
    refine Run.V2r d_Rf_share_38 lk_Rf_143 cm_Rf_together iv_Rf_together rfl (by first | rfl | assumption) (Nat.le_of_ble_eq_true rfl) (Nat.le_of_ble_eq_true rfl) (c_Rf_together hc hp hr.at hg.a49 (by omega)) ?_
    refine Run.S1r d_Rf_share_41 lk_Rf_195 cm_Rf_many st_Rf_many (Nat.le_of_ble_eq_true rfl) (Nat.le_of_ble_eq_true rfl) (c_Rf_many (by omega)) ?_
    refine Run.iast_n d_Rf_share_44 (by first | rfl | assumption) (by omega) (by omega) ?_
    first | refine Run.iinc_n d_Rf_share_45 ic_1 rfl rfl ?_ | refine Run.iinc d_Rf_share_45 rfl rfl rfl ?_
    show Run _ _ _ _ _ _ [_, _, _, _, _, _] _ _ _
    refine Run.goto d_Rf_share_48 ?_
    refine ih c24 (upd va s (nI (manyN (tgsN c p s)))) (fun q hq => ?_)
    by_cases hqs : q = s
    · subst hqs; exact pk_us
    · rw [pk_un hqs]; exact he q (by omega)
theorem q_Rf_share {x : Int32} {u : Bool} (hc : coOK c) (hp : pgOK c p) (hr : RfR c nu.2.2.1 nu.2.2.2.1 ho pi) (hg : PgV c p pg) : Call X (d + 7) 0 0 M_Rf_share [.ref 44, .int x, .int (bI u)] (PX f0 ++ hM nu tx ho pi rh rp pg tr bk kp ik ta tp ga gr va rw) (fun r h2 => r = some (.int (shareR c p x u)) ∧ ∃ v2, h2 = PX f0 ++ hM nu tx ho pi rh rp pg tr bk kp ik ta tp ga gr v2 rw) := by
  show Run X (d + 7) 0 0 M_Rf_share 0 [some (.ref 44), some (.int x), some (.int (bI u)), none, none, none] [] _ _
  have b2 := hc.2.1
  refine Run.aload_n d_Rf_share_0 rfl ?_
  refine Run.iconst (v := nI 0) d_Rf_share_1 ic_0 ?_
  refine Run.putf d_Rf_share_2 fl_Rf_59 (fun _ => rfl) (fun _ => rfl) (by first | rfl | assumption) (by exact Nat.le_of_ble_eq_true rfl) ?_
  refine run_hp (show _ = PX f0 ++ hM nu tx ho pi rh rp pg tr bk kp ik ta tp ga gr va rw from rfl) ?_
  refine Run.aload_n d_Rf_share_5 rfl ?_
  refine Run.iload_n d_Rf_share_6 rfl ?_
  refine Run.V1r d_Rf_share_7 lk_Rf_156 cm_Rf_noPiece iv_Rf_noPiece rfl (by first | rfl | assumption) (Nat.le_of_ble_eq_true rfl) (Nat.le_of_ble_eq_true rfl) (c_Rf_noPiece hc hr.at) ?_
  first | refine Run.if_eq_b d_Rf_share_10 (fun c10 => ?_) (fun c10 => ?_) | refine Run.if_eq_n d_Rf_share_10 (by omega) (fun c10 => ?_) (fun c10 => ?_) | refine Run.if_eq d_Rf_share_10 (fun c10 => ?_) (fun c10 => ?_)
  · rw [Bool.not_eq_false'] at c10
    obtain ⟨i, hi, rfl⟩ := inB_t (by omega) c10
    have ti : tn (nI i) = i := tn_nI (by omega)
    rw [show shareR c p (nI i) u = nI (if shN c p i = true then frN 1 (cntN c p (ptC c i)) u else frN 0 1 u) by rw [shareR, if_pos c10, ti]]
    refine Run.iconst (v := nI 0) d_Rf_share_15 ic_0 ?_
    refine Run.istore_n d_Rf_share_16 rfl rfl ?_
    show Run _ _ _ _ _ _ [_, _, _, _, _, _] _ _ _
    exact r_share17 hc hp hr hg hi
  · rw [Bool.not_eq_true'] at c10
    refine Run.iconst (v := -1) d_Rf_share_13 ic_m1 ?_
    refine Run.iret d_Rf_share_14 rfl rfl ?_
    exact ⟨by rw [shareR, if_neg (by rw [c10]; decide)], va, rfl⟩
end SHARE
