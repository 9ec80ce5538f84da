/-! ===== who should hold what ===== -/
/-- the better of what was found and another (its value, its figures) -/
def upN (b : Option (Nat × Nat)) (v w : Nat) : Option (Nat × Nat) := match b with
  | none => some (v, w)
  | some q => if q.1 < v then some (v, w) else some q
/-- a bit for a piece given to a holder, if it shows -/
def moreN (c : CA) (p : PG) (i h : Nat) : Nat := if sh c i h (angN p i) = true then 2 ^ (5 * h + ptC c i) else 0
def dfsN (c : CA) (p : PG) : Nat → Nat → Nat → Nat → Option (Nat × Nat) → Option (Nat × Nat)
  | 0 => fun _ s f b => upN b (bcN s) f
  | r + 1 => fun i s f b => itN (fun h b => dfsN c p r (i + 1) (s ||| moreN c p i h) (10 * f + h + 1) b) b (nhC c)
/-- holders to which a piece shows (bits) -/
def serN (c : CA) (p : PG) (i : Nat) : Nat := if i < npC c then itN (fun h acc => if sh c i h (angN p i) = true then acc ||| 2 ^ h else acc) 0 (nhC c) else 0
/-- how many of the pieces 6 - k .. 5 show to anybody -/
def hpN (c : CA) (p : PG) : Nat → Nat
  | 0 => 0
  | k + 1 => hpN c p k + (if serN c p (5 - k) = 0 then 0 else 1)
theorem hp_s (c : CA) (p : PG) {i : Nat} (hi : i < 6) : hpN c p (6 - i) = hpN c p (6 - (i + 1)) + (if serN c p i = 0 then 0 else 1) := by
  rw [show 6 - i = (6 - (i + 1)) + 1 by omega]
  show hpN c p (6 - (i + 1)) + (if serN c p (5 - (6 - (i + 1))) = 0 then 0 else 1) = _
  rw [show 5 - (6 - (i + 1)) = i by omega]
theorem hp_0 (c : CA) (p : PG) : ∀ k, k ≤ 6 - npC c → hpN c p k = 0 := by
  intro k
  induction k with
  | zero => intro _; rfl
  | succ k ih =>
    intro hk
    show hpN c p k + (if serN c p (5 - k) = 0 then 0 else 1) = 0
    have h0 : serN c p (5 - k) = 0 := by rw [serN, if_neg (show ¬ 5 - k < npC c by omega)]
    rw [ih (by omega), h0]
    rfl
theorem hp_le (c : CA) (p : PG) : ∀ k, hpN c p k ≤ k := by
  intro k
  induction k with
  | zero => exact Nat.le_refl _
  | succ k ih =>
    show hpN c p k + (if serN c p (5 - k) = 0 then 0 else 1) ≤ k + 1
    split <;> omega
theorem ser_bit {c : CA} {p : PG} {i h : Nat} (hi : i < npC c) : (serN c p i).testBit h = true ↔ h < nhC c ∧ sh c i h (angN p i) = true := by
  rw [serN, if_pos hi, or_bit (P := fun h => sh c i h (angN p i) = true) (g := fun h => h)]
  constructor
  · rintro ⟨k, h1, h2, rfl⟩; exact ⟨h1, h2⟩
  · rintro ⟨h1, h2⟩; exact ⟨h, h1, h2, rfl⟩
theorem ser_lt {c : CA} (hc : coOK c) (p : PG) (i : Nat) : serN c p i < 16 := by
  rw [serN]
  split
  · refine itN_inv (fun x => x < 16) (by decide) _ (fun j x hj hx => ?_)
    have b1 := hc.1
    split
    · exact Nat.or_lt_two_pow (n := 4) hx (Nat.pow_lt_pow_right (by omega) (by omega))
    · exact hx
  · decide
theorem bc_or (s k : Nat) : bcN (s ||| 2 ^ k) ≤ bcN s + 1 := by
  have key : ∀ n, itN (manyF (s ||| 2 ^ k)) 0 n ≤ itN (manyF s) 0 n + (if k < n then 1 else 0) := by
    intro n
    induction n with
    | zero => exact Nat.le_refl _
    | succ n ih =>
      show itN (manyF (s ||| 2 ^ k)) 0 n + ((s ||| 2 ^ k) / 2 ^ n &&& 1) ≤ itN (manyF s) 0 n + (s / 2 ^ n &&& 1) + _
      rw [bit_and, bit_and, Nat.testBit_or, Nat.testBit_two_pow]
      by_cases e : k = n
      · subst e
        rw [if_neg (Nat.lt_irrefl k)] at ih
        rw [if_pos (Nat.lt_succ_self k)]
        have h1 : (if (s.testBit k || decide (k = k)) = true then 1 else 0) ≤ 1 := by split <;> omega
        omega
      · rw [decide_eq_false e, Bool.or_false]
        have h1 : (if k < n then 1 else 0) = (if k < n + 1 then 1 else 0) := by
          by_cases hk : k < n
          · rw [if_pos hk, if_pos (by omega)]
          · rw [if_neg hk, if_neg (by omega)]
        rw [← h1]
        omega
  have := key 24
  rw [bcN, bcN]
  split at this <;> omega
theorem bc_le (s : Nat) : bcN s ≤ 24 := pre_le s 24
/-- nothing better lies below: nothing changes -/
theorem dfs_cut {c : CA} {p : PG} (hn : npC c ≤ 6) : ∀ r i s f (q : Nat × Nat), i + r = npC c → bcN s + hpN c p (6 - i) ≤ q.1 → dfsN c p r i s f (some q) = some q := by
  intro r
  induction r with
  | zero =>
    intro i s f q hi hq
    show upN (some q) (bcN s) f = some q
    rw [upN, if_neg (by omega)]
  | succ r ih =>
    intro i s f q hi hq
    show itN (fun h b => dfsN c p r (i + 1) (s ||| moreN c p i h) (10 * f + h + 1) b) (some q) (nhC c) = some q
    have key : ∀ n, n ≤ nhC c → itN (fun h b => dfsN c p r (i + 1) (s ||| moreN c p i h) (10 * f + h + 1) b) (some q) n = some q := by
      intro n
      induction n with
      | zero => intro _; rfl
      | succ n ihn =>
        intro hn2
        show dfsN c p r (i + 1) (s ||| moreN c p i n) (10 * f + n + 1) (itN _ (some q) n) = some q
        rw [ihn (by omega)]
        refine ih (i + 1) _ _ q (by omega) ?_
        rw [hp_s c p (i := i) (by omega)] at hq
        by_cases hs : sh c i n (angN p i) = true
        · have h1 : ¬ serN c p i = 0 := fun e => by
            have := (ser_bit (h := n) (p := p) (show i < npC c by omega)).mpr ⟨by omega, hs⟩
            rw [e, Nat.zero_testBit] at this
            cases this
          rw [if_neg h1] at hq
          rw [moreN, if_pos hs]
          have := bc_or s (5 * n + ptC c i)
          omega
        · rw [moreN, if_neg hs, Nat.or_zero]
          split at hq <;> omega
    exact key _ (Nat.le_refl _)
def mostI (b : Option (Nat × Nat)) : Int32 := match b with
  | none => -1
  | some q => nI q.1
def wayI (b : Option (Nat × Nat)) : Int32 := match b with
  | none => nI 0
  | some q => nI q.2
section GIVE
variable {X : Nat × (Nat → Int32)} {d : Nat} {c : CA} {p : PG} {t : AH} {tx : TxS} {ca cb : CoS} {kt kd : Nat} {sd : Int64} {nw tr s0 s1 : StS} {ac : AcS} {tu : TuS} {mo : MoS} {dn ch : FI} {fp fs fh : FI}
theorem r_try29 {i s f : Nat} {b : Option (Nat × Nat)} (hc : coOK c) (hi : i = npC c) (hlt : ∀ q, b = some q → q.1 < bcN s) : Run X (d + 1) 0 0 M_PM_tryGivings 29 [some (.ref 29), some (.int (nI i)), some (.int (nI s)), some (.int (nI f)), some (.int (nI (bcN s))), none, none] [] (hX tx ca cb kt kd sd nw tr ac tu (fp, fs, fh, nI (nhC c), nI (npC c), (mostI b), (wayI b)) mo dn ch s0 s1 ++ t) (Rv (hX tx ca cb kt kd sd nw tr ac tu (fp, fs, fh, nI (nhC c), nI (npC c), (mostI (upN b (bcN s) f)), (wayI (upN b (bcN s) f))) mo dn ch s0 s1 ++ t)) := by
  have b2 := hc.2.1
  have e : upN b (bcN s) f = some (bcN s, f) := by
    cases b with
    | none => rfl
    | some q => rw [upN, if_pos (hlt q rfl)]
  rw [e]
  refine Run.iload_n d_PM_tryGivings_29 rfl ?_
  refine Run.aload_n d_PM_tryGivings_30 rfl ?_
  refine Run.getf d_PM_tryGivings_31 fl_PM_293 (by first | rfl | assumption) (by rfl) ?_
  first | refine Run.icmp_ge_n d_PM_tryGivings_34 (by omega) (by omega) (fun c34 => ?_) (fun c34 => ?_) | refine Run.icmp_ge d_PM_tryGivings_34 (fun c34 => ?_) (fun c34 => ?_)
  · refine Run.aload_n d_PM_tryGivings_43 rfl ?_
    refine Run.iload d_PM_tryGivings_44 rfl ?_
    refine Run.putf d_PM_tryGivings_46 fl_PM_215 (fun _ => rfl) (fun _ => rfl) (by first | rfl | assumption) (by exact Nat.le_of_ble_eq_true rfl) ?_
    refine Run.aload_n d_PM_tryGivings_49 rfl ?_
    refine Run.iload_n d_PM_tryGivings_50 rfl ?_
    refine Run.putf d_PM_tryGivings_51 fl_PM_212 (fun _ => rfl) (fun _ => rfl) (by first | rfl | assumption) (by exact Nat.le_of_ble_eq_true rfl) ?_
    refine Run.vret d_PM_tryGivings_54 rfl ?_
    exact ⟨rfl, rfl⟩
  · omega
theorem q_PM_try (hc : coOK c) (hfp : ∀ i, i < npC c → fp i = nI (ptC c i)) (hfs : ∀ i, i < npC c → fs i = nI (serN c p i)) (hfh : ∀ i, i ≤ 6 → fh i = nI (hpN c p (6 - i))) : ∀ r i s f (b : Option (Nat × Nat)), i + r = npC c → s < 2 ^ 20 → (∀ q, b = some q → q.1 ≤ 24) → Call X (d + r + 1) 0 0 M_PM_tryGivings [.ref 29, .int (nI i), .int (nI s), .int (nI f)] (hX tx ca cb kt kd sd nw tr ac tu (fp, fs, fh, nI (nhC c), nI (npC c), (mostI b), (wayI b)) mo dn ch s0 s1 ++ t) (Rv (hX tx ca cb kt kd sd nw tr ac tu (fp, fs, fh, nI (nhC c), nI (npC c), (mostI (dfsN c p r i s f b)), (wayI (dfsN c p r i s f b))) mo dn ch s0 s1 ++ t)) := by
  have b1 := hc.1
  have b2 := hc.2.1
  intro r
  induction r with
  | zero =>
    intro i s f b hi hs hq
    show Run X (d + 0 + 1) 0 0 M_PM_tryGivings 0 [some (.ref 29), some (.int (nI i)), some (.int (nI s)), some (.int (nI f)), none, none, none] [] _ _
    have hz : hpN c p (6 - i) = 0 := hp_0 c p _ (by omega)
    have wb := bc_le s
    show Run _ _ _ _ _ _ _ _ _ (Rv (hX tx ca cb kt kd sd nw tr ac tu (fp, fs, fh, nI (nhC c), nI (npC c), (mostI (upN b (bcN s) f)), (wayI (upN b (bcN s) f))) mo dn ch s0 s1 ++ t))
    cases b with
    | none =>
      refine Run.iload_n d_PM_tryGivings_0 rfl ?_
      refine Run.S1r d_PM_tryGivings_1 lk_PM_268 cm_In_bitCount st_In_bitCount (Nat.le_of_ble_eq_true rfl) (Nat.le_of_ble_eq_true rfl) (c_In_bitCount (by omega)) ?_
      refine Run.istore d_PM_tryGivings_4 rfl rfl ?_
      show Run _ _ _ _ _ _ [_, _, _, _, _, _, _] _ _ _
      refine Run.iload_n d_PM_tryGivings_6 rfl ?_
      refine Run.bipush (v := nI 6) d_PM_tryGivings_7 bp_6 ?_
      first | refine Run.icmp_gt_n d_PM_tryGivings_9 (by omega) (by omega) (fun c9 => ?_) (fun c9 => ?_) | refine Run.icmp_gt d_PM_tryGivings_9 (fun c9 => ?_) (fun c9 => ?_)
      · omega
      · refine Run.iload d_PM_tryGivings_12 rfl ?_
        refine Run.aload_n d_PM_tryGivings_14 rfl ?_
        refine Run.getf d_PM_tryGivings_15 fl_PM_290 (by first | rfl | assumption) (by rfl) ?_
        refine Run.iload_n d_PM_tryGivings_18 rfl ?_
        refine Run.iald_n d_PM_tryGivings_19 (by first | rfl | assumption) (by omega) (by omega) ?_
        rw [show (fp, fs, fh, nI (nhC c), nI (npC c), mostI none, wayI none).2.2.1 i = nI (hpN c p (6 - i)) from hfh i (by omega), hz]
        first | refine Run.iadd_n d_PM_tryGivings_20 ?_ | refine Run.iadd d_PM_tryGivings_20 ?_
        refine Run.aload_n d_PM_tryGivings_21 rfl ?_
        refine Run.getf d_PM_tryGivings_22 fl_PM_215 (by first | rfl | assumption) (by rfl) ?_
        first | refine Run.icmp_gt_n d_PM_tryGivings_25 (by omega) (by omega) (fun c25 => ?_) (fun c25 => ?_) | refine Run.icmp_gt d_PM_tryGivings_25 (fun c25 => ?_) (fun c25 => ?_)
        · exact r_try29 hc (by omega) (fun q hq2 => by cases hq2)
        · exact absurd (Int32.lt_of_lt_of_le (b := 0) (show (-1 : Int32) < 0 by decide) (nI_pos' (by omega))) c25
    | some q =>
      have hq24 := hq q rfl
      refine Run.iload_n d_PM_tryGivings_0 rfl ?_
      refine Run.S1r d_PM_tryGivings_1 lk_PM_268 cm_In_bitCount st_In_bitCount (Nat.le_of_ble_eq_true rfl) (Nat.le_of_ble_eq_true rfl) (c_In_bitCount (by omega)) ?_
      refine Run.istore d_PM_tryGivings_4 rfl rfl ?_
      show Run _ _ _ _ _ _ [_, _, _, _, _, _, _] _ _ _
      refine Run.iload_n d_PM_tryGivings_6 rfl ?_
      refine Run.bipush (v := nI 6) d_PM_tryGivings_7 bp_6 ?_
      first | refine Run.icmp_gt_n d_PM_tryGivings_9 (by omega) (by omega) (fun c9 => ?_) (fun c9 => ?_) | refine Run.icmp_gt d_PM_tryGivings_9 (fun c9 => ?_) (fun c9 => ?_)
      · omega
      · refine Run.iload d_PM_tryGivings_12 rfl ?_
        refine Run.aload_n d_PM_tryGivings_14 rfl ?_
        refine Run.getf d_PM_tryGivings_15 fl_PM_290 (by first | rfl | assumption) (by rfl) ?_
        refine Run.iload_n d_PM_tryGivings_18 rfl ?_
        refine Run.iald_n d_PM_tryGivings_19 (by first | rfl | assumption) (by omega) (by omega) ?_
        rw [show (fp, fs, fh, nI (nhC c), nI (npC c), mostI (some q), wayI (some q)).2.2.1 i = nI (hpN c p (6 - i)) from hfh i (by omega), hz]
        first | refine Run.iadd_n d_PM_tryGivings_20 ?_ | refine Run.iadd d_PM_tryGivings_20 ?_
        refine Run.aload_n d_PM_tryGivings_21 rfl ?_
        refine Run.getf d_PM_tryGivings_22 fl_PM_215 (by first | rfl | assumption) (by rfl) ?_
        show Run _ _ _ _ _ _ _ [.int (nI q.1), _] _ _
        first | refine Run.icmp_gt_n d_PM_tryGivings_25 (by omega) (by omega) (fun c25 => ?_) (fun c25 => ?_) | refine Run.icmp_gt d_PM_tryGivings_25 (fun c25 => ?_) (fun c25 => ?_)
        · exact r_try29 (b := some q) hc (by omega) (fun q2 hq2 => by cases hq2; omega)
        · refine Run.vret d_PM_tryGivings_28 rfl ?_
          refine ⟨rfl, ?_⟩
          rw [upN, if_neg (by omega)]
  | succ r ih =>
    intro i s f b hi hs hq
    show Run X (d + r + 1 + 1) 0 0 M_PM_tryGivings 0 [some (.ref 29), some (.int (nI i)), some (.int (nI s)), some (.int (nI f)), none, none, none] [] _ _
    have wb := bc_le s
    have wh := hp_le c p (6 - i)
    have hin : i < npC c := by omega
    have w2 := (hc.2.2.2 i hin).1
    have ws := ser_lt hc p i
    have hbd : ∀ n, n ≤ nhC c → ∀ q, itN (fun h b => dfsN c p r (i + 1) (s ||| moreN c p i h) (10 * f + h + 1) b) b n = some q → q.1 ≤ 24 := by
      have gen : ∀ r i s f (b : Option (Nat × Nat)), (∀ q, b = some q → q.1 ≤ 24) → ∀ q, dfsN c p r i s f b = some q → q.1 ≤ 24 := by
        intro r
        induction r with
        | zero =>
          intro i s f b hb q hq
          have hq : upN b (bcN s) f = some q := hq
          have := bc_le s
          cases b with
          | none => cases hq; exact this
          | some q0 =>
            rw [upN] at hq
            split at hq
            · cases hq; exact this
            · cases hq; exact hb q rfl
        | succ r ih2 =>
          intro i s f b hb q hq
          have hq : itN (fun h b => dfsN c p r (i + 1) (s ||| moreN c p i h) (10 * f + h + 1) b) b (nhC c) = some q := hq
          have key : ∀ n q, itN (fun h b => dfsN c p r (i + 1) (s ||| moreN c p i h) (10 * f + h + 1) b) b n = some q → q.1 ≤ 24 := by
            intro n
            induction n with
            | zero => exact fun q hq => hb q hq
            | succ n ihn => exact fun q hq => ih2 (i + 1) _ _ _ ihn q hq
          exact key _ q hq
      intro n _
      induction n with
      | zero => exact fun q hq2 => hq q hq2
      | succ n ihn => exact fun q hq2 => gen r (i + 1) _ _ _ (ihn (by omega)) q hq2
    have h58 : ∀ h, h ≤ nhC c → ∀ v6, Run X (d + r + 1 + 1) 0 0 M_PM_tryGivings 58 [some (.ref 29), some (.int (nI i)), some (.int (nI s)), some (.int (nI f)), some (.int (nI (bcN s))), some (.int (nI h)), v6] [] (hX tx ca cb kt kd sd nw tr ac tu (fp, fs, fh, nI (nhC c), nI (npC c), (mostI (itN (fun h b => dfsN c p r (i + 1) (s ||| moreN c p i h) (10 * f + h + 1) b) b h)), (wayI (itN (fun h b => dfsN c p r (i + 1) (s ||| moreN c p i h) (10 * f + h + 1) b) b h))) mo dn ch s0 s1 ++ t) (Rv (hX tx ca cb kt kd sd nw tr ac tu (fp, fs, fh, nI (nhC c), nI (npC c), (mostI (dfsN c p (r + 1) i s f b)), (wayI (dfsN c p (r + 1) i s f b))) mo dn ch s0 s1 ++ t)) := by
      refine upto (nhC c) (fun h => ∀ v6, Run X (d + r + 1 + 1) 0 0 M_PM_tryGivings 58 [some (.ref 29), some (.int (nI i)), some (.int (nI s)), some (.int (nI f)), some (.int (nI (bcN s))), some (.int (nI h)), v6] [] (hX tx ca cb kt kd sd nw tr ac tu (fp, fs, fh, nI (nhC c), nI (npC c), (mostI (itN (fun h b => dfsN c p r (i + 1) (s ||| moreN c p i h) (10 * f + h + 1) b) b h)), (wayI (itN (fun h b => dfsN c p r (i + 1) (s ||| moreN c p i h) (10 * f + h + 1) b) b h))) mo dn ch s0 s1 ++ t) (Rv (hX tx ca cb kt kd sd nw tr ac tu (fp, fs, fh, nI (nhC c), nI (npC c), (mostI (dfsN c p (r + 1) i s f b)), (wayI (dfsN c p (r + 1) i s f b))) mo dn ch s0 s1 ++ t))) ?_
      intro h hh ih2 v6
      have hfin : h = nhC c → dfsN c p (r + 1) i s f b = itN (fun h b => dfsN c p r (i + 1) (s ||| moreN c p i h) (10 * f + h + 1) b) b h := fun e => by rw [e]; rfl
      have hstep : itN (fun h b => dfsN c p r (i + 1) (s ||| moreN c p i h) (10 * f + h + 1) b) b (h + 1) = dfsN c p r (i + 1) (s ||| moreN c p i h) (10 * f + h + 1) (itN (fun h b => dfsN c p r (i + 1) (s ||| moreN c p i h) (10 * f + h + 1) b) b h) := rfl
      rw [hstep] at ih2
      have hbh := hbd h hh
      generalize itN (fun h b => dfsN c p r (i + 1) (s ||| moreN c p i h) (10 * f + h + 1) b) b h = bh at ih2 hfin hbh ⊢
      generalize dfsN c p (r + 1) i s f b = bF at ih2 hfin ⊢
      have hmore : h < nhC c → s ||| moreN c p i h < 2 ^ 20 := fun hlt => by
        refine Nat.or_lt_two_pow hs ?_
        rw [moreN]
        split
        · exact Nat.pow_lt_pow_right (by omega) (by omega)
        · decide
      have hsb : h < nhC c → (serN c p i).testBit h = sh c i h (angN p i) := fun hlt => by
        rw [Bool.eq_iff_iff, ser_bit hin]
        exact ⟨fun z => z.2, fun z => ⟨hlt, z⟩⟩
      refine Run.iload d_PM_tryGivings_58 rfl ?_
      refine Run.aload_n d_PM_tryGivings_60 rfl ?_
      refine Run.getf d_PM_tryGivings_61 fl_PM_294 (by first | rfl | assumption) (by rfl) ?_
      first | refine Run.icmp_ge_n d_PM_tryGivings_64 (by omega) (by omega) (fun c64 => ?_) (fun c64 => ?_) | refine Run.icmp_ge d_PM_tryGivings_64 (fun c64 => ?_) (fun c64 => ?_)
      · refine Run.vret d_PM_tryGivings_126 rfl ?_
        refine ⟨rfl, ?_⟩
        rw [hfin (by omega)]
      · refine Run.aload_n d_PM_tryGivings_67 rfl ?_
        refine Run.getf d_PM_tryGivings_68 fl_PM_295 (by first | rfl | assumption) (by rfl) ?_
        refine Run.iload_n d_PM_tryGivings_71 rfl ?_
        refine Run.iald_n d_PM_tryGivings_72 (by first | rfl | assumption) (by omega) (by omega) ?_
        rw [show (fp, fs, fh, nI (nhC c), nI (npC c), mostI bh, wayI bh).2.1 i = nI (serN c p i) from hfs i hin]
        refine Run.iload d_PM_tryGivings_73 rfl ?_
        refine Run.S2r d_PM_tryGivings_75 lk_PM_193 cm_PM_hasBit st_PM_hasBit (Nat.le_of_ble_eq_true rfl) (Nat.le_of_ble_eq_true rfl) (c_PM_hasBit (by omega) (by omega)) ?_
        rw [hsb c64]
        first | refine Run.if_eq_b d_PM_tryGivings_78 (fun c78 => ?_) (fun c78 => ?_) | refine Run.if_eq_n d_PM_tryGivings_78 (by omega) (fun c78 => ?_) (fun c78 => ?_) | refine Run.if_eq d_PM_tryGivings_78 (fun c78 => ?_) (fun c78 => ?_)
        · refine Run.iconst (v := nI 0) d_PM_tryGivings_97 ic_0 ?_
          refine Run.istore d_PM_tryGivings_98 rfl rfl ?_
          show Run _ _ _ _ _ _ [_, _, _, _, _, _, _] _ _ _
          refine Run.aload_n d_PM_tryGivings_100 rfl ?_
          refine Run.iload_n d_PM_tryGivings_101 rfl ?_
          refine Run.iconst (v := nI 1) d_PM_tryGivings_102 ic_1 ?_
          first | refine Run.iadd_n d_PM_tryGivings_103 ?_ | refine Run.iadd d_PM_tryGivings_103 ?_
          refine Run.iload_n d_PM_tryGivings_104 rfl ?_
          refine Run.iload d_PM_tryGivings_105 rfl ?_
          first | refine Run.ior_n d_PM_tryGivings_107 ?_ | refine Run.ior d_PM_tryGivings_107 ?_
          first
          | rw [show s ||| 0 = s ||| moreN c p i h by rw [moreN, if_neg (by rw [c78]; decide)]]
          | rw [show s ||| 2 ^ (5 * h + ptC c i) = s ||| moreN c p i h by rw [moreN, if_pos c78]]
          refine Run.bipush (v := nI 10) d_PM_tryGivings_108 bp_10 ?_
          refine Run.iload_n d_PM_tryGivings_110 rfl ?_
          first | refine Run.imul_n d_PM_tryGivings_111 ?_ | refine Run.imul d_PM_tryGivings_111 ?_
          refine Run.iload d_PM_tryGivings_112 rfl ?_
          first | refine Run.iadd_n d_PM_tryGivings_114 ?_ | refine Run.iadd d_PM_tryGivings_114 ?_
          refine Run.iconst (v := nI 1) d_PM_tryGivings_115 ic_1 ?_
          first | refine Run.iadd_n d_PM_tryGivings_116 ?_ | refine Run.iadd d_PM_tryGivings_116 ?_
          refine Run.S4v d_PM_tryGivings_117 lk_PM_208 cm_PM_tryGivings st_PM_tryGivings (Nat.le_of_ble_eq_true rfl) (Nat.le_of_ble_eq_true rfl) (ih (i + 1) _ _ bh (by omega) (hmore c64) hbh) ?_
          first | refine Run.iinc_n d_PM_tryGivings_120 ic_1 rfl rfl ?_ | refine Run.iinc d_PM_tryGivings_120 rfl rfl rfl ?_
          show Run _ _ _ _ _ _ [_, _, _, _, _, _, _] _ _ _
          refine Run.goto d_PM_tryGivings_123 ?_
          exact ih2 c64 _
        · refine Run.iconst (v := nI 1) d_PM_tryGivings_81 ic_1 ?_
          refine Run.iconst (v := nI 5) d_PM_tryGivings_82 ic_5 ?_
          refine Run.iload d_PM_tryGivings_83 rfl ?_
          first | refine Run.imul_n d_PM_tryGivings_85 ?_ | refine Run.imul d_PM_tryGivings_85 ?_
          refine Run.aload_n d_PM_tryGivings_86 rfl ?_
          refine Run.getf d_PM_tryGivings_87 fl_PM_298 (by first | rfl | assumption) (by rfl) ?_
          refine Run.iload_n d_PM_tryGivings_90 rfl ?_
          refine Run.iald_n d_PM_tryGivings_91 (by first | rfl | assumption) (by omega) (by omega) ?_
          rw [show (fp, fs, fh, nI (nhC c), nI (npC c), mostI bh, wayI bh).1 i = nI (ptC c i) from hfp i hin]
          first | refine Run.iadd_n d_PM_tryGivings_92 ?_ | refine Run.iadd d_PM_tryGivings_92 ?_
          have w3 : 2 ^ (5 * h + ptC c i) < 2 ^ 20 := Nat.pow_lt_pow_right (by omega) (by omega)
          first | refine Run.ishl_n d_PM_tryGivings_93 (by omega) (by omega) ?_ | refine Run.ishl d_PM_tryGivings_93 ?_
          rw [Nat.one_mul]
          refine Run.goto d_PM_tryGivings_94 ?_
          refine Run.istore d_PM_tryGivings_98 rfl rfl ?_
          show Run _ _ _ _ _ _ [_, _, _, _, _, _, _] _ _ _
          refine Run.aload_n d_PM_tryGivings_100 rfl ?_
          refine Run.iload_n d_PM_tryGivings_101 rfl ?_
          refine Run.iconst (v := nI 1) d_PM_tryGivings_102 ic_1 ?_
          first | refine Run.iadd_n d_PM_tryGivings_103 ?_ | refine Run.iadd d_PM_tryGivings_103 ?_
          refine Run.iload_n d_PM_tryGivings_104 rfl ?_
          refine Run.iload d_PM_tryGivings_105 rfl ?_
          first | refine Run.ior_n d_PM_tryGivings_107 ?_ | refine Run.ior d_PM_tryGivings_107 ?_
          first
          | rw [show s ||| 0 = s ||| moreN c p i h by rw [moreN, if_neg (by rw [c78]; decide)]]
          | rw [show s ||| 2 ^ (5 * h + ptC c i) = s ||| moreN c p i h by rw [moreN, if_pos c78]]
          refine Run.bipush (v := nI 10) d_PM_tryGivings_108 bp_10 ?_
          refine Run.iload_n d_PM_tryGivings_110 rfl ?_
          first | refine Run.imul_n d_PM_tryGivings_111 ?_ | refine Run.imul d_PM_tryGivings_111 ?_
          refine Run.iload d_PM_tryGivings_112 rfl ?_
          first | refine Run.iadd_n d_PM_tryGivings_114 ?_ | refine Run.iadd d_PM_tryGivings_114 ?_
          refine Run.iconst (v := nI 1) d_PM_tryGivings_115 ic_1 ?_
          first | refine Run.iadd_n d_PM_tryGivings_116 ?_ | refine Run.iadd d_PM_tryGivings_116 ?_
          refine Run.S4v d_PM_tryGivings_117 lk_PM_208 cm_PM_tryGivings st_PM_tryGivings (Nat.le_of_ble_eq_true rfl) (Nat.le_of_ble_eq_true rfl) (ih (i + 1) _ _ bh (by omega) (hmore c64) hbh) ?_
          first | refine Run.iinc_n d_PM_tryGivings_120 ic_1 rfl rfl ?_ | refine Run.iinc d_PM_tryGivings_120 rfl rfl rfl ?_
          show Run _ _ _ _ _ _ [_, _, _, _, _, _, _] _ _ _
          refine Run.goto d_PM_tryGivings_123 ?_
          exact ih2 c64 _
    have h29 : Run X (d + r + 1 + 1) 0 0 M_PM_tryGivings 29 [some (.ref 29), some (.int (nI i)), some (.int (nI s)), some (.int (nI f)), some (.int (nI (bcN s))), none, none] [] (hX tx ca cb kt kd sd nw tr ac tu (fp, fs, fh, nI (nhC c), nI (npC c), (mostI b), (wayI b)) mo dn ch s0 s1 ++ t) (Rv (hX tx ca cb kt kd sd nw tr ac tu (fp, fs, fh, nI (nhC c), nI (npC c), (mostI (dfsN c p (r + 1) i s f b)), (wayI (dfsN c p (r + 1) i s f b))) mo dn ch s0 s1 ++ t)) := by
      have k0 := h58 0 (Nat.zero_le _)
      generalize dfsN c p (r + 1) i s f b = bF at k0 ⊢
      refine Run.iload_n d_PM_tryGivings_29 rfl ?_
      refine Run.aload_n d_PM_tryGivings_30 rfl ?_
      refine Run.getf d_PM_tryGivings_31 fl_PM_293 (by first | rfl | assumption) (by rfl) ?_
      first | refine Run.icmp_ge_n d_PM_tryGivings_34 (by omega) (by omega) (fun c34 => ?_) (fun c34 => ?_) | refine Run.icmp_ge d_PM_tryGivings_34 (fun c34 => ?_) (fun c34 => ?_)
      · omega
      · refine Run.iload_n d_PM_tryGivings_37 rfl ?_
        refine Run.bipush (v := nI 6) d_PM_tryGivings_38 bp_6 ?_
        first | refine Run.icmp_lt_n d_PM_tryGivings_40 (by omega) (by omega) (fun c40 => ?_) (fun c40 => ?_) | refine Run.icmp_lt d_PM_tryGivings_40 (fun c40 => ?_) (fun c40 => ?_)
        · refine Run.iconst (v := nI 0) d_PM_tryGivings_55 ic_0 ?_
          refine Run.istore d_PM_tryGivings_56 rfl rfl ?_
          show Run _ _ _ _ _ _ [_, _, _, _, _, _, _] _ _ _
          exact k0 _
        · omega
    cases b with
    | none =>
      generalize dfsN c p (r + 1) i s f none = bF at h29 ⊢
      refine Run.iload_n d_PM_tryGivings_0 rfl ?_
      refine Run.S1r d_PM_tryGivings_1 lk_PM_268 cm_In_bitCount st_In_bitCount (Nat.le_of_ble_eq_true rfl) (Nat.le_of_ble_eq_true rfl) (c_In_bitCount (by omega)) ?_
      refine Run.istore d_PM_tryGivings_4 rfl rfl ?_
      show Run _ _ _ _ _ _ [_, _, _, _, _, _, _] _ _ _
      refine Run.iload_n d_PM_tryGivings_6 rfl ?_
      refine Run.bipush (v := nI 6) d_PM_tryGivings_7 bp_6 ?_
      first | refine Run.icmp_gt_n d_PM_tryGivings_9 (by omega) (by omega) (fun c9 => ?_) (fun c9 => ?_) | refine Run.icmp_gt d_PM_tryGivings_9 (fun c9 => ?_) (fun c9 => ?_)
      · omega
      · refine Run.iload d_PM_tryGivings_12 rfl ?_
        refine Run.aload_n d_PM_tryGivings_14 rfl ?_
        refine Run.getf d_PM_tryGivings_15 fl_PM_290 (by first | rfl | assumption) (by rfl) ?_
        refine Run.iload_n d_PM_tryGivings_18 rfl ?_
        refine Run.iald_n d_PM_tryGivings_19 (by first | rfl | assumption) (by omega) (by omega) ?_
        rw [show (fp, fs, fh, nI (nhC c), nI (npC c), mostI none, wayI none).2.2.1 i = nI (hpN c p (6 - i)) from hfh i (by omega)]
        first | refine Run.iadd_n d_PM_tryGivings_20 ?_ | refine Run.iadd d_PM_tryGivings_20 ?_
        refine Run.aload_n d_PM_tryGivings_21 rfl ?_
        refine Run.getf d_PM_tryGivings_22 fl_PM_215 (by first | rfl | assumption) (by rfl) ?_
        first | refine Run.icmp_gt_n d_PM_tryGivings_25 (by omega) (by omega) (fun c25 => ?_) (fun c25 => ?_) | refine Run.icmp_gt d_PM_tryGivings_25 (fun c25 => ?_) (fun c25 => ?_)
        · exact h29
        · exact absurd (Int32.lt_of_lt_of_le (b := 0) (show (-1 : Int32) < 0 by decide) (nI_pos' (by omega))) c25
    | some q =>
      have hq24 := hq q rfl
      have hcut := dfs_cut (c := c) (p := p) b2 (r + 1) i s f q hi
      generalize dfsN c p (r + 1) i s f (some q) = bF at h29 hcut ⊢
      refine Run.iload_n d_PM_tryGivings_0 rfl ?_
      refine Run.S1r d_PM_tryGivings_1 lk_PM_268 cm_In_bitCount st_In_bitCount (Nat.le_of_ble_eq_true rfl) (Nat.le_of_ble_eq_true rfl) (c_In_bitCount (by omega)) ?_
      refine Run.istore d_PM_tryGivings_4 rfl rfl ?_
      show Run _ _ _ _ _ _ [_, _, _, _, _, _, _] _ _ _
      refine Run.iload_n d_PM_tryGivings_6 rfl ?_
      refine Run.bipush (v := nI 6) d_PM_tryGivings_7 bp_6 ?_
      first | refine Run.icmp_gt_n d_PM_tryGivings_9 (by omega) (by omega) (fun c9 => ?_) (fun c9 => ?_) | refine Run.icmp_gt d_PM_tryGivings_9 (fun c9 => ?_) (fun c9 => ?_)
      · omega
      · refine Run.iload d_PM_tryGivings_12 rfl ?_
        refine Run.aload_n d_PM_tryGivings_14 rfl ?_
        refine Run.getf d_PM_tryGivings_15 fl_PM_290 (by first | rfl | assumption) (by rfl) ?_
        refine Run.iload_n d_PM_tryGivings_18 rfl ?_
        refine Run.iald_n d_PM_tryGivings_19 (by first | rfl | assumption) (by omega) (by omega) ?_
        rw [show (fp, fs, fh, nI (nhC c), nI (npC c), mostI (some q), wayI (some q)).2.2.1 i = nI (hpN c p (6 - i)) from hfh i (by omega)]
        first | refine Run.iadd_n d_PM_tryGivings_20 ?_ | refine Run.iadd d_PM_tryGivings_20 ?_
        refine Run.aload_n d_PM_tryGivings_21 rfl ?_
        refine Run.getf d_PM_tryGivings_22 fl_PM_215 (by first | rfl | assumption) (by rfl) ?_
        show Run _ _ _ _ _ _ _ [.int (nI q.1), _] _ _
        first | refine Run.icmp_gt_n d_PM_tryGivings_25 (by omega) (by omega) (fun c25 => ?_) (fun c25 => ?_) | refine Run.icmp_gt d_PM_tryGivings_25 (fun c25 => ?_) (fun c25 => ?_)
        · exact h29
        · refine Run.vret d_PM_tryGivings_28 rfl ?_
          refine ⟨rfl, ?_⟩
          rw [hcut (by omega)]
end GIVE
