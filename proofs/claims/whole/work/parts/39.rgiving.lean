/-! ===== who should hold what (the reference) ===== -/
/-- the figure of a row of i figures at place x -/
def gR (nh R i x : Nat) : Nat := R / nh ^ (i - 1 - x) % nh
def sbR (c : CA) (p : PG) (R i : Nat) : Nat := itN (fun x acc => acc ||| moreN c p x (gR (nhC c) R i x)) 0 i
def fgR (c : CA) (R i : Nat) : Nat := itN (fun x acc => 10 * acc + gR (nhC c) R i x + 1) 0 i
def rwF (c : CA) (p : PG) : Nat → Option (Nat × Nat) → Option (Nat × Nat) := fun R b => upN b (bcN (sbR c p R (npC c))) (fgR c R (npC c))
/-- a fold from s on -/
def itR {α : Type} (F : Nat → α → α) (s : Nat) : Nat → α → α
  | 0, a => a
  | n + 1, a => F (s + n) (itR F s n a)
theorem itR_add {α : Type} (F : Nat → α → α) (s m : Nat) (a : α) : ∀ n, itR F s (m + n) a = itR F (s + m) n (itR F s m a) := by
  intro n
  induction n with
  | zero => rfl
  | succ n ih =>
    show F (s + (m + n)) (itR F s (m + n) a) = F (s + m + n) (itR F (s + m) n (itR F s m a))
    rw [ih, Nat.add_assoc]
theorem itR_0 {α : Type} (F : Nat → α → α) (a : α) : ∀ n, itR F 0 n a = itN F a n := by
  intro n
  induction n with
  | zero => rfl
  | succ n ih =>
    show F (0 + n) (itR F 0 n a) = F n (itN F a n)
    rw [ih, Nat.zero_add]
theorem gR_s {nh R h i x : Nat} (hh : h < nh) (hx : x < i) : gR nh (R * nh + h) (i + 1) x = gR nh R i x := by
  have h0 : 0 < nh := by omega
  rw [gR, gR, show i + 1 - 1 - x = (i - 1 - x) + 1 by omega, Nat.pow_succ, Nat.mul_comm (nh ^ (i - 1 - x)) nh, ← Nat.div_div_eq_div_mul, Nat.mul_comm R nh, Nat.mul_add_div h0, Nat.div_eq_of_lt hh, Nat.add_zero]
theorem gR_e {nh R h i : Nat} (hh : h < nh) : gR nh (R * nh + h) (i + 1) i = h := by
  rw [gR, show i + 1 - 1 - i = 0 by omega, Nat.pow_zero, Nat.div_one, Nat.mul_comm, Nat.mul_add_mod, Nat.mod_eq_of_lt hh]
theorem sb_s {c : CA} {p : PG} {R h i : Nat} (hh : h < nhC c) : sbR c p (R * nhC c + h) (i + 1) = sbR c p R i ||| moreN c p i h := by
  show itN _ 0 i ||| moreN c p i (gR (nhC c) (R * nhC c + h) (i + 1) i) = _
  rw [gR_e hh]
  congr 1
  exact itN_congr _ (fun x a hx => by rw [gR_s hh hx])
theorem fg_s {c : CA} {R h i : Nat} (hh : h < nhC c) : fgR c (R * nhC c + h) (i + 1) = 10 * fgR c R i + h + 1 := by
  show 10 * itN _ 0 i + gR (nhC c) (R * nhC c + h) (i + 1) i + 1 = _
  rw [gR_e hh]
  congr 3
  exact itN_congr _ (fun x a hx => by rw [gR_s hh hx])
theorem dfs_rows {c : CA} {p : PG} : ∀ r i R (b : Option (Nat × Nat)), i + r = npC c → dfsN c p r i (sbR c p R i) (fgR c R i) b = itR (rwF c p) (R * nhC c ^ r) (nhC c ^ r) b := by
  intro r
  induction r with
  | zero =>
    intro i R b hi
    rw [Nat.add_zero] at hi
    subst hi
    rw [Nat.pow_zero, Nat.mul_one]
    rfl
  | succ r ih =>
    intro i R b hi
    show itN (fun h b => dfsN c p r (i + 1) (sbR c p R i ||| moreN c p i h) (10 * fgR c R i + h + 1) b) b (nhC c) = _
    have key : ∀ n, n ≤ nhC c → itN (fun h b => dfsN c p r (i + 1) (sbR c p R i ||| moreN c p i h) (10 * fgR c R i + h + 1) b) b n = itR (rwF c p) (R * nhC c ^ (r + 1)) (n * nhC c ^ r) b := by
      intro n
      induction n with
      | zero => intro _; rw [Nat.zero_mul]; rfl
      | succ n ihn =>
        intro hn
        show dfsN c p r (i + 1) (sbR c p R i ||| moreN c p i n) (10 * fgR c R i + n + 1) (itN _ b n) = _
        rw [ihn (by omega), ← sb_s (by omega), ← fg_s (by omega), ih (i + 1) _ _ (by omega), Nat.succ_mul, itR_add]
        congr 1
        rw [Nat.add_mul, Nat.pow_succ, Nat.mul_comm (nhC c ^ r) (nhC c), Nat.mul_assoc]
    rw [key _ (Nat.le_refl _), Nat.pow_succ, Nat.mul_comm (nhC c ^ r) (nhC c)]
theorem gvB_rows (c : CA) (p : PG) : gvB c p = itN (rwF c p) none (nhC c ^ npC c) := by
  have h := dfs_rows (c := c) (p := p) (npC c) 0 0 none (by omega)
  rw [Nat.zero_mul, itR_0] at h
  exact h
/-- the page with other holders -/
def pwP (p : PG) (g : Nat → Nat) : PG := (p.1, g, p.2.2.1, p.2.2.2)
theorem more_bit {c : CA} {p : PG} {i h t j : Nat} (ht : t < 5) (hc : ptC c i < 5) : (moreN c p i h).testBit (5 * j + t) = true ↔ sh c i h (angN p i) = true ∧ h = j ∧ ptC c i = t := by
  rw [moreN]
  split
  · rename_i q
    rw [Nat.testBit_two_pow, decide_eq_true_eq]
    constructor
    · intro e; exact ⟨q, by omega, by omega⟩
    · rintro ⟨-, rfl, rfl⟩; rfl
  · rename_i q
    rw [Nat.zero_testBit]
    constructor
    · intro e; cases e
    · rintro ⟨e, -⟩; exact absurd e q
theorem sb_lane {c : CA} {p : PG} {g : Nat → Nat} {j : Nat} (hc : coOK c) : itN (fun x acc => acc ||| moreN c p x (g x)) 0 (npC c) / 2 ^ (5 * j) % 2 ^ 5 = seenN c (pwP p g) j := by
  apply Nat.eq_of_testBit_eq
  intro t
  rw [Nat.testBit_mod_two_pow, Nat.testBit_div_two_pow]
  by_cases ht : t < 5
  · rw [decide_eq_true ht, Bool.true_and, Bool.eq_iff_iff, Nat.add_comm t (5 * j), or_bit2 (f := fun x => moreN c p x (g x))]
    rw [show seenN c (pwP p g) j = itN (fun i acc => if pgW (pwP p g) i = j ∧ sh c i j (angN (pwP p g) i) = true then acc ||| 2 ^ ptC c i else acc) 0 (npC c) from rfl, or_bit (P := fun i => pgW (pwP p g) i = j ∧ sh c i j (angN (pwP p g) i) = true) (g := ptC c)]
    constructor
    · rintro ⟨x, hx, hb⟩
      obtain ⟨h1, h2, h3⟩ := (more_bit ht (hc.2.2.2 x hx).1).mp hb
      exact ⟨x, hx, ⟨h2, by rw [← h2]; exact h1⟩, h3⟩
    · rintro ⟨x, hx, ⟨h1, h2⟩, h3⟩
      have h1 : g x = j := h1
      exact ⟨x, hx, (more_bit ht (hc.2.2.2 x hx).1).mpr ⟨by rw [h1]; exact h2, h1, h3⟩⟩
  · rw [decide_eq_false ht, Bool.false_and]
    have h1 := seenN_lt hc (pwP p g) j
    exact (Nat.testBit_lt_two_pow (Nat.lt_of_lt_of_le h1 (Nat.pow_le_pow_right (n := 2) (by omega) (show 5 ≤ t by omega)))).symm
theorem many5 : ∀ s, s < 32 → itN (manyF s) 0 5 = manyN s := by decide +kernel
theorem many_md5 (i : Nat) : itN (manyF (i % 2 ^ 5)) 0 5 = itN (manyF i) 0 5 := itN_congr _ (fun k x hk => by
  show x + (i % 2 ^ 5 / 2 ^ k &&& 1) = x + (i / 2 ^ k &&& 1)
  rw [bit_and, bit_and, Nat.testBit_mod_two_pow, decide_eq_true hk, Bool.true_and])
theorem bc_lanes {s : Nat} (hs : s < 2 ^ 20) : bcN s = manyN (s / 2 ^ (5 * 0) % 2 ^ 5) + manyN (s / 2 ^ (5 * 1) % 2 ^ 5) + manyN (s / 2 ^ (5 * 2) % 2 ^ 5) + manyN (s / 2 ^ (5 * 3) % 2 ^ 5) := by
  rw [bcN, show 24 = 5 + (5 + (5 + (5 + 4))) from rfl, many_sh, many_sh, many_sh, many_sh]
  have z : itN (manyF (s / 2 ^ 5 / 2 ^ 5 / 2 ^ 5 / 2 ^ 5)) 0 4 = 0 := by
    rw [show s / 2 ^ 5 / 2 ^ 5 / 2 ^ 5 / 2 ^ 5 = 0 by omega]
    rfl
  rw [z, ← many_md5 s, ← many_md5 (s / 2 ^ 5), ← many_md5 (s / 2 ^ 5 / 2 ^ 5), ← many_md5 (s / 2 ^ 5 / 2 ^ 5 / 2 ^ 5)]
  rw [many5 _ (Nat.mod_lt _ (by omega)), many5 _ (Nat.mod_lt _ (by omega)), many5 _ (Nat.mod_lt _ (by omega)), many5 _ (Nat.mod_lt _ (by omega))]
  rw [show s / 2 ^ (5 * 0) = s by rw [Nat.mul_zero, Nat.pow_zero, Nat.div_one], show s / 2 ^ 5 / 2 ^ 5 / 2 ^ 5 = s / 2 ^ (5 * 3) by omega, show s / 2 ^ 5 / 2 ^ 5 = s / 2 ^ (5 * 2) by omega, show s / 2 ^ (5 * 1) = s / 2 ^ 5 from rfl]
  simp only [Nat.add_assoc, Nat.add_zero]
theorem sum_seen {c : CA} {p : PG} {g : Nat → Nat} (hc : coOK c) (hg : ∀ i, i < npC c → g i < nhC c) : itN (fun j acc => acc + manyN (seenN c (pwP p g) j)) 0 (nhC c) = bcN (itN (fun x acc => acc ||| moreN c p x (g x)) 0 (npC c)) := by
  have b1 := hc.1
  have hlt : itN (fun x acc => acc ||| moreN c p x (g x)) 0 (npC c) < 2 ^ 20 := by
    refine itN_inv (fun x => x < 2 ^ 20) (by decide) _ (fun i x hi hx => Nat.or_lt_two_pow hx ?_)
    have h1 := hg i hi
    have h2 := (hc.2.2.2 i hi).1
    rw [moreN]
    split
    · exact Nat.pow_lt_pow_right (by omega) (by omega)
    · decide
  rw [bc_lanes hlt, sb_lane hc, sb_lane hc, sb_lane hc, sb_lane hc]
  have hz : ∀ j, nhC c ≤ j → manyN (seenN c (pwP p g) j) = 0 := by
    intro j hj
    have e : seenN c (pwP p g) j = 0 := by
      apply Nat.eq_of_testBit_eq
      intro t
      rw [Nat.zero_testBit, Bool.eq_false_iff]
      intro q
      rw [show seenN c (pwP p g) j = itN (fun i acc => if pgW (pwP p g) i = j ∧ sh c i j (angN (pwP p g) i) = true then acc ||| 2 ^ ptC c i else acc) 0 (npC c) from rfl, or_bit (P := fun i => pgW (pwP p g) i = j ∧ sh c i j (angN (pwP p g) i) = true) (g := ptC c)] at q
      obtain ⟨x, hx, ⟨h1, -⟩, -⟩ := q
      have h1 : g x = j := h1
      have := hg x hx
      omega
    rw [e]
    rfl
  rcases (show nhC c = 0 ∨ nhC c = 1 ∨ nhC c = 2 ∨ nhC c = 3 ∨ nhC c = 4 by omega) with e | e | e | e | e
  · rw [e, hz 0 (by omega), hz 1 (by omega), hz 2 (by omega), hz 3 (by omega)]; rfl
  · rw [e, hz 1 (by omega), hz 2 (by omega), hz 3 (by omega)]
    show 0 + manyN (seenN c (pwP p g) 0) = manyN (seenN c (pwP p g) 0) + 0 + 0 + 0
    omega
  · rw [e, hz 2 (by omega), hz 3 (by omega)]
    show 0 + manyN (seenN c (pwP p g) 0) + manyN (seenN c (pwP p g) 1) = manyN (seenN c (pwP p g) 0) + manyN (seenN c (pwP p g) 1) + 0 + 0
    omega
  · rw [e, hz 3 (by omega)]
    show 0 + manyN (seenN c (pwP p g) 0) + manyN (seenN c (pwP p g) 1) + manyN (seenN c (pwP p g) 2) = manyN (seenN c (pwP p g) 0) + manyN (seenN c (pwP p g) 1) + manyN (seenN c (pwP p g) 2) + 0
    omega
  · rw [e]
    show 0 + manyN (seenN c (pwP p g) 0) + manyN (seenN c (pwP p g) 1) + manyN (seenN c (pwP p g) 2) + manyN (seenN c (pwP p g) 3) = manyN (seenN c (pwP p g) 0) + manyN (seenN c (pwP p g) 1) + manyN (seenN c (pwP p g) 2) + manyN (seenN c (pwP p g) 3)
    omega
section RGIVE
variable {X : Nat × (Nat → Int32)} {d : Nat} {c : CA} {p : PG} {f0 : Nat → AC} {nu : NuS} {tx ho pi rh rp pg tr bk kp ik ta tp ga gr va rw : FI}
def bmI (b : Option (Nat × Nat)) : Int32 := match b with
  | none => -9
  | some q => nI q.1
def bwI (b : Option (Nat × Nat)) : Int32 := match b with
  | none => -9
  | some q => nI q.2
/-- one row weighed: from 162 on -/
theorem r_giv162 {R v w : Nat} {u : Bool} {R0 : Int32} {b : Option (Nat × Nat)} {v7 : Option Value} (hv : v ≤ 24) (hb : ∀ q, b = some q → q.1 ≤ 24)
    (kk : ∀ v5 v6 v7, Run X (d + 6) 0 0 M_Rf_giving 30 [some (.ref 44), some (.int (bI u)), some (.int (bmI (upN b v w))), some (.int (bwI (upN b v w))), some (.int (nI (R + 1))), v5, v6, v7] [] (PX f0 ++ hM nu tx ho pi rh rp pg tr bk kp ik ta tp ga gr va rw) (fun r h2 => r = some (.int R0) ∧ ∃ t2, h2 = PX f0 ++ hM nu tx ho pi rh rp pg t2 bk kp ik ta tp ga gr va rw)) : Run X (d + 6) 0 0 M_Rf_giving 162 [some (.ref 44), some (.int (bI u)), some (.int (bmI b)), some (.int (bwI b)), some (.int (nI R)), some (.int (nI w)), some (.int (nI v)), v7] [] (PX f0 ++ hM nu tx ho pi rh rp pg tr bk kp ik ta tp ga gr va rw) (fun r h2 => r = some (.int R0) ∧ ∃ t2, h2 = PX f0 ++ hM nu tx ho pi rh rp pg t2 bk kp ik ta tp ga gr va rw) := by
  cases b with
  | none =>
    have kk2 : ∀ v5 v6 v7, Run X (d + 6) 0 0 M_Rf_giving 30 [some (.ref 44), some (.int (bI u)), some (.int (nI v)), some (.int (nI w)), some (.int (nI (R + 1))), v5, v6, v7] [] (PX f0 ++ hM nu tx ho pi rh rp pg tr bk kp ik ta tp ga gr va rw) (fun r h2 => r = some (.int R0) ∧ ∃ t2, h2 = PX f0 ++ hM nu tx ho pi rh rp pg t2 bk kp ik ta tp ga gr va rw) := kk
    show Run _ _ _ _ _ _ [_, _, some (.int (-9)), some (.int (-9)), _, _, _, _] _ _ _
    refine Run.iload d_Rf_giving_162 rfl ?_
    refine Run.iload_n d_Rf_giving_164 rfl ?_
    first | refine Run.icmp_le_n d_Rf_giving_165 (by omega) (by omega) (fun c165 => ?_) (fun c165 => ?_) | refine Run.icmp_le d_Rf_giving_165 (fun c165 => ?_) (fun c165 => ?_)
    · exact absurd c165 (Int32.not_le.mpr (Int32.lt_of_lt_of_le (b := 0) (by decide) (nI_pos' (by omega))))
    · refine Run.iload d_Rf_giving_168 rfl ?_
      refine Run.istore_n d_Rf_giving_170 rfl rfl ?_
      show Run _ _ _ _ _ _ [_, _, _, _, _, _, _, _] _ _ _
      refine Run.iload d_Rf_giving_171 rfl ?_
      refine Run.istore_n d_Rf_giving_173 rfl rfl ?_
      show Run _ _ _ _ _ _ [_, _, _, _, _, _, _, _] _ _ _
      first | refine Run.iinc_n d_Rf_giving_174 ic_1 rfl rfl ?_ | refine Run.iinc d_Rf_giving_174 rfl rfl rfl ?_
      show Run _ _ _ _ _ _ [_, _, _, _, _, _, _, _] _ _ _
      refine Run.goto d_Rf_giving_177 ?_
      exact kk2 _ _ _
  | some q =>
    have hq := hb q rfl
    have kk2 : (if q.1 < v then (∀ v5 v6 v7, Run X (d + 6) 0 0 M_Rf_giving 30 [some (.ref 44), some (.int (bI u)), some (.int (nI v)), some (.int (nI w)), some (.int (nI (R + 1))), v5, v6, v7] [] (PX f0 ++ hM nu tx ho pi rh rp pg tr bk kp ik ta tp ga gr va rw) (fun r h2 => r = some (.int R0) ∧ ∃ t2, h2 = PX f0 ++ hM nu tx ho pi rh rp pg t2 bk kp ik ta tp ga gr va rw)) else (∀ v5 v6 v7, Run X (d + 6) 0 0 M_Rf_giving 30 [some (.ref 44), some (.int (bI u)), some (.int (nI q.1)), some (.int (nI q.2)), some (.int (nI (R + 1))), v5, v6, v7] [] (PX f0 ++ hM nu tx ho pi rh rp pg tr bk kp ik ta tp ga gr va rw) (fun r h2 => r = some (.int R0) ∧ ∃ t2, h2 = PX f0 ++ hM nu tx ho pi rh rp pg t2 bk kp ik ta tp ga gr va rw))) := by
      by_cases hlt : q.1 < v
      · rw [if_pos hlt]
        rw [upN, if_pos hlt] at kk
        exact kk
      · rw [if_neg hlt]
        rw [upN, if_neg hlt] at kk
        exact kk
    show Run _ _ _ _ _ _ [_, _, some (.int (nI q.1)), some (.int (nI q.2)), _, _, _, _] _ _ _
    refine Run.iload d_Rf_giving_162 rfl ?_
    refine Run.iload_n d_Rf_giving_164 rfl ?_
    first | refine Run.icmp_le_n d_Rf_giving_165 (by omega) (by omega) (fun c165 => ?_) (fun c165 => ?_) | refine Run.icmp_le d_Rf_giving_165 (fun c165 => ?_) (fun c165 => ?_)
    · first | refine Run.iinc_n d_Rf_giving_174 ic_1 rfl rfl ?_ | refine Run.iinc d_Rf_giving_174 rfl rfl rfl ?_
      show Run _ _ _ _ _ _ [_, _, _, _, _, _, _, _] _ _ _
      refine Run.goto d_Rf_giving_177 ?_
      first
      | (have q0 : v ≤ q.1 := c165; rw [if_neg (by omega)] at kk2; exact kk2 _ _ _)
      | (have q0 : q.1 < v := c165; rw [if_pos q0] at kk2; exact kk2 _ _ _)
    · refine Run.iload d_Rf_giving_168 rfl ?_
      refine Run.istore_n d_Rf_giving_170 rfl rfl ?_
      show Run _ _ _ _ _ _ [_, _, _, _, _, _, _, _] _ _ _
      refine Run.iload d_Rf_giving_171 rfl ?_
      refine Run.istore_n d_Rf_giving_173 rfl rfl ?_
      show Run _ _ _ _ _ _ [_, _, _, _, _, _, _, _] _ _ _
      first | refine Run.iinc_n d_Rf_giving_174 ic_1 rfl rfl ?_ | refine Run.iinc d_Rf_giving_174 rfl rfl rfl ?_
      show Run _ _ _ _ _ _ [_, _, _, _, _, _, _, _] _ _ _
      refine Run.goto d_Rf_giving_177 ?_
      first
      | (have q0 : v ≤ q.1 := c165; rw [if_neg (by omega)] at kk2; exact kk2 _ _ _)
      | (have q0 : q.1 < v := c165; rw [if_pos q0] at kk2; exact kk2 _ _ _)
theorem r_giv127 {R w : Nat} {u : Bool} {R0 : Int32} {b : Option (Nat × Nat)} {g : Nat → Nat} {p2 : PG} (hc : coOK c) (hp2 : pgOK c p2) (hr : RfR c nu.2.2.1 nu.2.2.2.1 ho pi) (hg : PgV c p2 tr) (hb : ∀ q, b = some q → q.1 ≤ 24) {v : Nat} (hv : itN (fun j acc => acc + manyN (seenN c p2 j)) 0 (nhC c) = v) (hv24 : v ≤ 24)
    (kk : ∀ v5 v6 v7, Run X (d + 6) 0 0 M_Rf_giving 30 [some (.ref 44), some (.int (bI u)), some (.int (bmI (upN b v w))), some (.int (bwI (upN b v w))), some (.int (nI (R + 1))), v5, v6, v7] [] (PX f0 ++ hM nu tx ho pi rh rp pg tr bk kp ik ta tp ga gr va rw) (fun r h2 => r = some (.int R0) ∧ ∃ t2, h2 = PX f0 ++ hM nu tx ho pi rh rp pg t2 bk kp ik ta tp ga gr va rw)) : Run X (d + 6) 0 0 M_Rf_giving 127 [some (.ref 44), some (.int (bI u)), some (.int (bmI b)), some (.int (bwI b)), some (.int (nI R)), some (.int (nI w)), some (.int (nI 0)), some (.int (nI 0))] [] (PX f0 ++ hM nu tx ho pi rh rp pg tr bk kp ik ta tp ga gr va rw) (fun r h2 => r = some (.int R0) ∧ ∃ t2, h2 = PX f0 ++ hM nu tx ho pi rh rp pg t2 bk kp ik ta tp ga gr va rw) := by
  have b1 := hc.1
  refine upto (nhC c) (fun j => Run X (d + 6) 0 0 M_Rf_giving 127 [some (.ref 44), some (.int (bI u)), some (.int (bmI b)), some (.int (bwI b)), some (.int (nI R)), some (.int (nI w)), some (.int (nI (itN (fun j acc => acc + manyN (seenN c p2 j)) 0 j))), some (.int (nI j))] [] (PX f0 ++ hM nu tx ho pi rh rp pg tr bk kp ik ta tp ga gr va rw) (fun r h2 => r = some (.int R0) ∧ ∃ t2, h2 = PX f0 ++ hM nu tx ho pi rh rp pg t2 bk kp ik ta tp ga gr va rw)) ?_ 0 (Nat.zero_le _)
  intro j hj ih
  have w1 := seenN_lt hc p2 j
  have hst : itN (fun j acc => acc + manyN (seenN c p2 j)) 0 (j + 1) = itN (fun j acc => acc + manyN (seenN c p2 j)) 0 j + manyN (seenN c p2 j) := rfl
  rw [hst] at ih
  refine Run.iload d_Rf_giving_127 rfl ?_
  refine Run.aload_n d_Rf_giving_129 rfl ?_
  refine Run.getf d_Rf_giving_130 fl_Rf_63 (by first | rfl | assumption) (by rfl) ?_
  rw [hr.1]
  first | refine Run.icmp_ge_n d_Rf_giving_133 (by omega) (by omega) (fun c133 => ?_) (fun c133 => ?_) | refine Run.icmp_ge d_Rf_giving_133 (fun c133 => ?_) (fun c133 => ?_)
  · have e8 : j = nhC c := by omega
    rw [e8, hv]
    exact r_giv162 hv24 hb kk
  · refine Run.iload d_Rf_giving_136 rfl ?_
    refine Run.aload_n d_Rf_giving_138 rfl ?_
    refine Run.aload_n d_Rf_giving_139 rfl ?_
    refine Run.getf d_Rf_giving_140 fl_Rf_28 (by first | rfl | assumption) (by rfl) ?_
    refine Run.iload d_Rf_giving_143 rfl ?_
    refine Run.bipush (v := nI 63) d_Rf_giving_145 bp_63 ?_
    refine Run.V3r d_Rf_giving_147 lk_Rf_135 cm_Rf_seesOf iv_Rf_seesOf rfl (by first | rfl | assumption) (Nat.le_of_ble_eq_true rfl) (Nat.le_of_ble_eq_true rfl) (c_Rf_seesOf hc hp2 hr.at hg.a50 (by omega) (by omega)) ?_
    rw [sesN_63 hc.2.1]
    refine Run.S1r d_Rf_giving_150 lk_Rf_195 cm_Rf_many st_Rf_many (Nat.le_of_ble_eq_true rfl) (Nat.le_of_ble_eq_true rfl) (c_Rf_many (by omega)) ?_
    first | refine Run.iadd_n d_Rf_giving_153 ?_ | refine Run.iadd d_Rf_giving_153 ?_
    refine Run.istore d_Rf_giving_154 rfl rfl ?_
    show Run _ _ _ _ _ _ [_, _, _, _, _, _, _, _] _ _ _
    first | refine Run.iinc_n d_Rf_giving_156 ic_1 rfl rfl ?_ | refine Run.iinc d_Rf_giving_156 rfl rfl rfl ?_
    show Run _ _ _ _ _ _ [_, _, _, _, _, _, _, _] _ _ _
    refine Run.goto d_Rf_giving_159 ?_
    exact ih c133
theorem r_giv56 {R : Nat} {u : Bool} {R0 : Int32} {b : Option (Nat × Nat)} {v7 : Option Value} (hc : coOK c) (hp : pgOK c p) (hr : RfR c nu.2.2.1 nu.2.2.2.1 ho pi) (hg : PgV c p tr) (hb : ∀ q, b = some q → q.1 ≤ 24) (hn0 : 0 < nhC c) (hR : R < 2 ^ 30)
    (kk : ∀ (tr : FI) v5 v6 v7, Run X (d + 6) 0 0 M_Rf_giving 30 [some (.ref 44), some (.int (bI u)), some (.int (bmI (rwF c p R b))), some (.int (bwI (rwF c p R b))), some (.int (nI (R + 1))), v5, v6, v7] [] (PX f0 ++ hM nu tx ho pi rh rp pg tr bk kp ik ta tp ga gr va rw) (fun r h2 => r = some (.int R0) ∧ ∃ t2, h2 = PX f0 ++ hM nu tx ho pi rh rp pg t2 bk kp ik ta tp ga gr va rw)) : Run X (d + 6) 0 0 M_Rf_giving 56 [some (.ref 44), some (.int (bI u)), some (.int (bmI b)), some (.int (bwI b)), some (.int (nI R)), some (.int (nI 0)), some (.int (nI 0)), v7] [] (PX f0 ++ hM nu tx ho pi rh rp pg tr bk kp ik ta tp ga gr va rw) (fun r h2 => r = some (.int R0) ∧ ∃ t2, h2 = PX f0 ++ hM nu tx ho pi rh rp pg t2 bk kp ik ta tp ga gr va rw) := by
  have b1 := hc.1
  have b2 := hc.2.1
  have hpw : ∀ a, a ≤ 6 → 0 < nhC c ^ a ∧ nhC c ^ a < 2 ^ 31 := fun a ha => ⟨Nat.pow_pos hn0, Nat.lt_of_le_of_lt (Nat.le_trans (Nat.pow_le_pow_left b1 a) (Nat.pow_le_pow_right (by omega) ha)) (by decide)⟩
  refine upto (npC c) (fun k => ∀ (tr : FI) v7, (∀ i, i < npC c → tr i = nI (pgT p i)) → (∀ i, i < k → tr (6 + i) = nI (gR (nhC c) R (npC c) i)) → tr 12 = nI (pgL p) → tr 13 = nI (pgH p) → Run X (d + 6) 0 0 M_Rf_giving 56 [some (.ref 44), some (.int (bI u)), some (.int (bmI b)), some (.int (bwI b)), some (.int (nI R)), some (.int (nI (itN (fun x acc => 10 * acc + gR (nhC c) R (npC c) x + 1) 0 k))), some (.int (nI k)), v7] [] (PX f0 ++ hM nu tx ho pi rh rp pg tr bk kp ik ta tp ga gr va rw) (fun r h2 => r = some (.int R0) ∧ ∃ t2, h2 = PX f0 ++ hM nu tx ho pi rh rp pg t2 bk kp ik ta tp ga gr va rw)) ?_ 0 (Nat.zero_le _) tr v7 (fun i hi => (hg.1 i hi).1) (fun i hi => by omega) hg.2.1 hg.2.2
  intro k hk ih tr v7 h1 h2 h3 h4
  have hst : itN (fun x acc => 10 * acc + gR (nhC c) R (npC c) x + 1) 0 (k + 1) = 10 * itN (fun x acc => 10 * acc + gR (nhC c) R (npC c) x + 1) 0 k + gR (nhC c) R (npC c) k + 1 := rfl
  rw [hst] at ih
  have wg : gR (nhC c) R (npC c) k < nhC c := Nat.mod_lt _ hn0
  have hgd : R / nhC c ^ (npC c - 1 - k) % nhC c = gR (nhC c) R (npC c) k := rfl
  have wp := hpw (npC c - 1 - k) (by omega)
  have wd : R / nhC c ^ (npC c - 1 - k) ≤ R := Nat.div_le_self _ _
  have h121 : k = npC c → ∀ v6 v7, Run X (d + 6) 0 0 M_Rf_giving 121 [some (.ref 44), some (.int (bI u)), some (.int (bmI b)), some (.int (bwI b)), some (.int (nI R)), some (.int (nI (itN (fun x acc => 10 * acc + gR (nhC c) R (npC c) x + 1) 0 k))), v6, v7] [] (PX f0 ++ hM nu tx ho pi rh rp pg tr bk kp ik ta tp ga gr va rw) (fun r h2 => r = some (.int R0) ∧ ∃ t2, h2 = PX f0 ++ hM nu tx ho pi rh rp pg t2 bk kp ik ta tp ga gr va rw) := by
    intro e v6 v7
    have hp2 : pgOK c (pwP p (gR (nhC c) R (npC c))) := ⟨hp.1, hp.2.1, fun i hi => ⟨(hp.2.2 i hi).1, Nat.mod_lt _ hn0⟩⟩
    have hg2 : PgV c (pwP p (gR (nhC c) R (npC c))) tr := ⟨fun i hi => ⟨h1 i hi, h2 i (by omega)⟩, h3, h4⟩
    have hv := sum_seen (p := p) (g := gR (nhC c) R (npC c)) hc (fun i _ => Nat.mod_lt _ hn0)
    have hk2 := kk tr
    rw [show rwF c p R b = upN b (bcN (itN (fun x acc => acc ||| moreN c p x (gR (nhC c) R (npC c) x)) 0 (npC c))) (itN (fun x acc => 10 * acc + gR (nhC c) R (npC c) x + 1) 0 (npC c)) from rfl] at hk2
    rw [e]
    have wb := bc_le (itN (fun x acc => acc ||| moreN c p x (gR (nhC c) R (npC c) x)) 0 (npC c))
    generalize bcN (itN (fun x acc => acc ||| moreN c p x (gR (nhC c) R (npC c) x)) 0 (npC c)) = v at hv hk2 wb
    generalize itN (fun x acc => 10 * acc + gR (nhC c) R (npC c) x + 1) 0 (npC c) = w at hk2 ⊢
    have k0 := r_giv127 (X := X) (d := d) (f0 := f0) (tx := tx) (rh := rh) (rp := rp) (pg := pg) (bk := bk) (kp := kp) (ik := ik) (ta := ta) (tp := tp) (ga := ga) (gr := gr) (va := va) (rw := rw) (g := fun _ => 0) hc hp2 hr hg2 hb hv wb hk2
    generalize bmI b = B1 at k0 ⊢
    generalize bwI b = B2 at k0 ⊢
    refine Run.iconst (v := nI 0) d_Rf_giving_121 ic_0 ?_
    refine Run.istore d_Rf_giving_122 rfl rfl ?_
    show Run _ _ _ _ _ _ [_, _, _, _, _, _, _, _] _ _ _
    refine Run.iconst (v := nI 0) d_Rf_giving_124 ic_0 ?_
    refine Run.istore d_Rf_giving_125 rfl rfl ?_
    show Run _ _ _ _ _ _ [_, _, _, _, _, _, _, _] _ _ _
    exact k0
  generalize itN (fun x acc => 10 * acc + gR (nhC c) R (npC c) x + 1) 0 k = F at ih h121 ⊢
  generalize hG : gR (nhC c) R (npC c) k = G at ih wg hgd
  generalize bmI b = B1 at ih h121 ⊢
  generalize bwI b = B2 at ih h121 ⊢
  refine Run.iload d_Rf_giving_56 rfl ?_
  refine Run.aload_n d_Rf_giving_58 rfl ?_
  refine Run.getf d_Rf_giving_59 fl_Rf_70 (by first | rfl | assumption) (by rfl) ?_
  rw [hr.2.1]
  first | refine Run.icmp_ge_n d_Rf_giving_62 (by omega) (by omega) (fun c62 => ?_) (fun c62 => ?_) | refine Run.icmp_ge d_Rf_giving_62 (fun c62 => ?_) (fun c62 => ?_)
  · exact h121 (by omega) _ _
  · refine Run.iload d_Rf_giving_65 rfl ?_
    refine Run.aload_n d_Rf_giving_67 rfl ?_
    refine Run.getf d_Rf_giving_68 fl_Rf_63 (by first | rfl | assumption) (by rfl) ?_
    rw [hr.1]
    refine Run.aload_n d_Rf_giving_71 rfl ?_
    refine Run.getf d_Rf_giving_72 fl_Rf_70 (by first | rfl | assumption) (by rfl) ?_
    rw [hr.2.1]
    refine Run.iconst (v := nI 1) d_Rf_giving_75 ic_1 ?_
    first | refine Run.isub_n d_Rf_giving_76 (by omega) ?_ | refine Run.isub d_Rf_giving_76 ?_
    refine Run.iload d_Rf_giving_77 rfl ?_
    first | refine Run.isub_n d_Rf_giving_79 (by omega) ?_ | refine Run.isub d_Rf_giving_79 ?_
    refine Run.S2r d_Rf_giving_80 lk_Rf_186 cm_Rf_power st_Rf_power (Nat.le_of_ble_eq_true rfl) (Nat.le_of_ble_eq_true rfl) (c_Rf_power (by omega)) ?_
    first | refine Run.idiv_n d_Rf_giving_83 (by omega) (by omega) (by omega) ?_ | refine Run.idiv d_Rf_giving_83 (by decide +kernel) ?_
    refine Run.aload_n d_Rf_giving_84 rfl ?_
    refine Run.getf d_Rf_giving_85 fl_Rf_63 (by first | rfl | assumption) (by rfl) ?_
    rw [hr.1]
    first | refine Run.irem_n d_Rf_giving_88 (by omega) (by omega) (by omega) ?_ | refine Run.irem d_Rf_giving_88 (by decide +kernel) ?_
    rw [hgd]
    refine Run.istore d_Rf_giving_89 rfl rfl ?_
    show Run _ _ _ _ _ _ [_, _, _, _, _, _, _, _] _ _ _
    refine Run.aload_n d_Rf_giving_91 rfl ?_
    refine Run.getf d_Rf_giving_92 fl_Rf_28 (by first | rfl | assumption) (by rfl) ?_
    refine Run.bipush (v := nI 6) d_Rf_giving_95 bp_6 ?_
    refine Run.iload d_Rf_giving_97 rfl ?_
    first | refine Run.iadd_n d_Rf_giving_99 ?_ | refine Run.iadd d_Rf_giving_99 ?_
    refine Run.iload d_Rf_giving_100 rfl ?_
    refine Run.iast_n d_Rf_giving_102 (by first | rfl | assumption) (by omega) (by omega) ?_
    refine Run.bipush (v := nI 10) d_Rf_giving_103 bp_10 ?_
    refine Run.iload d_Rf_giving_105 rfl ?_
    first | refine Run.imul_n d_Rf_giving_107 ?_ | refine Run.imul d_Rf_giving_107 ?_
    refine Run.iload d_Rf_giving_108 rfl ?_
    first | refine Run.iadd_n d_Rf_giving_110 ?_ | refine Run.iadd d_Rf_giving_110 ?_
    refine Run.iconst (v := nI 1) d_Rf_giving_111 ic_1 ?_
    first | refine Run.iadd_n d_Rf_giving_112 ?_ | refine Run.iadd d_Rf_giving_112 ?_
    refine Run.istore d_Rf_giving_113 rfl rfl ?_
    show Run _ _ _ _ _ _ [_, _, _, _, _, _, _, _] _ _ _
    first | refine Run.iinc_n d_Rf_giving_115 ic_1 rfl rfl ?_ | refine Run.iinc d_Rf_giving_115 rfl rfl rfl ?_
    show Run _ _ _ _ _ _ [_, _, _, _, _, _, _, _] _ _ _
    refine Run.goto d_Rf_giving_118 ?_
    refine ih c62 (upd tr (6 + k) (nI G)) _ (fun i hi => ?_) (fun i hi => ?_) ?_ ?_
    · rw [pk_un (by omega)]; exact h1 i hi
    · by_cases e : i = k
      · subst e; rw [pk_us, hG]
      · rw [pk_un (by omega)]; exact h2 i (by omega)
    · rw [pk_un (by omega)]; exact h3
    · rw [pk_un (by omega)]; exact h4
theorem rw_24 (c : CA) (p : PG) (n : Nat) : ∀ q, itN (rwF c p) none n = some q → q.1 ≤ 24 := by
  refine itN_inv (fun b : Option (Nat × Nat) => ∀ q, b = some q → q.1 ≤ 24) (fun q h => by cases h) n (fun R b _ hb => ?_)
  intro q hq
  have wb := bc_le (sbR c p R (npC c))
  rw [rwF] at hq
  cases b with
  | none => cases hq; exact wb
  | some q0 =>
    rw [upN] at hq
    split at hq
    · cases hq; exact wb
    · cases hq; exact hb q rfl
theorem rw_some (c : CA) (p : PG) {n : Nat} (hn : 0 < n) : ∃ q, itN (rwF c p) none n = some q := by
  cases n with
  | zero => omega
  | succ n =>
    show ∃ q, upN (itN (rwF c p) none n) _ _ = some q
    cases itN (rwF c p) none n with
    | none => exact ⟨_, rfl⟩
    | some q0 =>
      rw [upN]
      split
      · exact ⟨_, rfl⟩
      · exact ⟨_, rfl⟩
theorem q_Rf_giving {u : Bool} (hc : coOK c) (hp : pgOK c p) (hr : RfR c nu.2.2.1 nu.2.2.2.1 ho pi) (hg : PgV c p pg) : Call X (d + 6) 0 0 M_Rf_giving [.ref 44, .int (bI u)] (PX f0 ++ hM nu tx ho pi rh rp pg tr bk kp ik ta tp ga gr va rw) (fun r h2 => r = some (.int (givingR c p u)) ∧ ∃ t2, h2 = PX f0 ++ hM nu tx ho pi rh rp pg t2 bk kp ik ta tp ga gr va rw) := by
  show Run X (d + 6) 0 0 M_Rf_giving 0 [some (.ref 44), some (.int (bI u)), none, none, none, none, none, none] [] _ _
  have b1 := hc.1
  have b2 := hc.2.1
  by_cases hn : npC c = 0
  · have hz : givingR c p u = nI 0 := by
      rw [givingR, gvB, hn]
      cases u <;> rfl
    rw [hz]
    refine Run.aload_n d_Rf_giving_0 rfl ?_
    refine Run.iconst (v := nI 0) d_Rf_giving_1 ic_0 ?_
    refine Run.putf d_Rf_giving_2 fl_Rf_59 (fun _ => rfl) (fun _ => rfl) (by first | rfl | assumption) (by exact Nat.le_of_ble_eq_true rfl) ?_
    refine run_hp (show _ = PX f0 ++ hM nu tx ho pi rh rp pg tr bk kp ik ta tp ga gr va rw from rfl) ?_
    refine Run.aload_n d_Rf_giving_5 rfl ?_
    refine Run.getf d_Rf_giving_6 fl_Rf_70 (by first | rfl | assumption) (by rfl) ?_
    rw [hr.2.1]
    first | refine Run.if_eq_b d_Rf_giving_9 (fun c9 => ?_) (fun c9 => ?_) | refine Run.if_eq_n d_Rf_giving_9 (by omega) (fun c9 => ?_) (fun c9 => ?_) | refine Run.if_eq d_Rf_giving_9 (fun c9 => ?_) (fun c9 => ?_)
    · refine Run.iconst (v := nI 0) d_Rf_giving_19 ic_0 ?_
      refine Run.iret d_Rf_giving_20 rfl rfl ?_
      exact ⟨rfl, tr, rfl⟩
    · exact absurd hn c9
  · have hn0 : 0 < nhC c := by have := (hp.2.2 0 (by omega)).2; omega
    have hpl : nhC c ^ npC c ≤ 4 ^ 6 := Nat.le_trans (Nat.pow_le_pow_left b1 _) (Nat.pow_le_pow_right (by omega) b2)
    have hpp : 0 < nhC c ^ npC c := Nat.pow_pos hn0
    obtain ⟨q, hq⟩ := rw_some c p hpp
    have hR0 : givingR c p u = if u = true then nI q.2 else nI q.1 := by rw [givingR, gvB_rows, hq]; rfl
    generalize givingR c p u = R0 at hR0 ⊢
    have h30 : ∀ R, R ≤ nhC c ^ npC c → ∀ (tr : FI) v5 v6 v7, Run X (d + 6) 0 0 M_Rf_giving 30 [some (.ref 44), some (.int (bI u)), some (.int (bmI (itN (rwF c p) none R))), some (.int (bwI (itN (rwF c p) none R))), some (.int (nI R)), v5, v6, v7] [] (PX f0 ++ hM nu tx ho pi rh rp pg tr bk kp ik ta tp ga gr va rw) (fun r h2 => r = some (.int R0) ∧ ∃ t2, h2 = PX f0 ++ hM nu tx ho pi rh rp pg t2 bk kp ik ta tp ga gr va rw) := by
      refine upto (nhC c ^ npC c) (fun R => ∀ (tr : FI) v5 v6 v7, Run X (d + 6) 0 0 M_Rf_giving 30 [some (.ref 44), some (.int (bI u)), some (.int (bmI (itN (rwF c p) none R))), some (.int (bwI (itN (rwF c p) none R))), some (.int (nI R)), v5, v6, v7] [] (PX f0 ++ hM nu tx ho pi rh rp pg tr bk kp ik ta tp ga gr va rw) (fun r h2 => r = some (.int R0) ∧ ∃ t2, h2 = PX f0 ++ hM nu tx ho pi rh rp pg t2 bk kp ik ta tp ga gr va rw)) ?_
      intro R hR ih tr v5 v6 v7
      have hb24 := rw_24 c p R
      have hst : itN (rwF c p) none (R + 1) = rwF c p R (itN (rwF c p) none R) := rfl
      rw [hst] at ih
      have hend : R = nhC c ^ npC c → itN (rwF c p) none R = some q := fun e => by rw [e]; exact hq
      generalize itN (rwF c p) none R = b at ih hb24 hend ⊢
      have h56 : R < nhC c ^ npC c → ∀ (tr : FI) v7, PgV c p tr → Run X (d + 6) 0 0 M_Rf_giving 56 [some (.ref 44), some (.int (bI u)), some (.int (bmI b)), some (.int (bwI b)), some (.int (nI R)), some (.int (nI 0)), some (.int (nI 0)), v7] [] (PX f0 ++ hM nu tx ho pi rh rp pg tr bk kp ik ta tp ga gr va rw) (fun r h2 => r = some (.int R0) ∧ ∃ t2, h2 = PX f0 ++ hM nu tx ho pi rh rp pg t2 bk kp ik ta tp ga gr va rw) := fun hlt tr v7 hg2 => r_giv56 hc hp hr hg2 hb24 hn0 (by omega) (ih hlt)
      have h180 : R = nhC c ^ npC c → Run X (d + 6) 0 0 M_Rf_giving 180 [some (.ref 44), some (.int (bI u)), some (.int (bmI b)), some (.int (bwI b)), some (.int (nI R)), v5, v6, v7] [] (PX f0 ++ hM nu tx ho pi rh rp pg tr bk kp ik ta tp ga gr va rw) (fun r h2 => r = some (.int R0) ∧ ∃ t2, h2 = PX f0 ++ hM nu tx ho pi rh rp pg t2 bk kp ik ta tp ga gr va rw) := by
        intro e
        rw [hend e]
        show Run _ _ _ _ _ _ [_, _, some (.int (nI q.1)), some (.int (nI q.2)), _, _, _, _] _ _ _
        refine Run.iload_n d_Rf_giving_180 rfl ?_
        first | refine Run.if_eq_b d_Rf_giving_181 (fun c181 => ?_) (fun c181 => ?_) | refine Run.if_eq_n d_Rf_giving_181 (by omega) (fun c181 => ?_) (fun c181 => ?_) | refine Run.if_eq d_Rf_giving_181 (fun c181 => ?_) (fun c181 => ?_)
        · refine Run.iload_n d_Rf_giving_188 rfl ?_
          refine Run.iret d_Rf_giving_189 rfl rfl ?_
          first
          | (have q0 : u = false := c181; refine ⟨?_, tr, rfl⟩; rw [hR0, if_neg (by rw [q0]; decide)]; done)
          | (have q0 : u = true := c181; refine ⟨?_, tr, rfl⟩; rw [hR0, if_pos q0]; done)
        · refine Run.iload_n d_Rf_giving_184 rfl ?_
          refine Run.goto d_Rf_giving_185 ?_
          refine Run.iret d_Rf_giving_189 rfl rfl ?_
          first
          | (have q0 : u = false := c181; refine ⟨?_, tr, rfl⟩; rw [hR0, if_neg (by rw [q0]; decide)]; done)
          | (have q0 : u = true := c181; refine ⟨?_, tr, rfl⟩; rw [hR0, if_pos q0]; done)
      generalize bmI b = B1 at h56 h180 ⊢
      generalize bwI b = B2 at h56 h180 ⊢
      refine Run.iload d_Rf_giving_30 rfl ?_
      refine Run.aload_n d_Rf_giving_32 rfl ?_
      refine Run.getf d_Rf_giving_33 fl_Rf_63 (by first | rfl | assumption) (by rfl) ?_
      rw [hr.1]
      refine Run.aload_n d_Rf_giving_36 rfl ?_
      refine Run.getf d_Rf_giving_37 fl_Rf_70 (by first | rfl | assumption) (by rfl) ?_
      rw [hr.2.1]
      refine Run.S2r d_Rf_giving_40 lk_Rf_186 cm_Rf_power st_Rf_power (Nat.le_of_ble_eq_true rfl) (Nat.le_of_ble_eq_true rfl) (c_Rf_power (by omega)) ?_
      first | refine Run.icmp_ge_n d_Rf_giving_43 (by omega) (by omega) (fun c43 => ?_) (fun c43 => ?_) | refine Run.icmp_ge d_Rf_giving_43 (fun c43 => ?_) (fun c43 => ?_)
      · exact h180 (by omega)
      · refine Run.aload_n d_Rf_giving_46 rfl ?_
        refine Run.V0 d_Rf_giving_47 lk_Rf_183 cm_Rf_begin iv_Rf_begin rfl (by first | rfl | assumption) (Nat.le_of_ble_eq_true rfl) (Nat.le_of_ble_eq_true rfl) (q_Rf_begin) (fun r47 h47 q47 => ?_)
        obtain ⟨rfl, t3, hb, rfl⟩ := q47
        refine Run.iconst (v := nI 0) d_Rf_giving_50 ic_0 ?_
        refine Run.istore d_Rf_giving_51 rfl rfl ?_
        show Run _ _ _ _ _ _ [_, _, _, _, _, _, _, _] _ _ _
        refine Run.iconst (v := nI 0) d_Rf_giving_53 ic_0 ?_
        refine Run.istore d_Rf_giving_54 rfl rfl ?_
        show Run _ _ _ _ _ _ [_, _, _, _, _, _, _, _] _ _ _
        exact h56 c43 t3 _ (hg.cp b2 hb)
    refine Run.aload_n d_Rf_giving_0 rfl ?_
    refine Run.iconst (v := nI 0) d_Rf_giving_1 ic_0 ?_
    refine Run.putf d_Rf_giving_2 fl_Rf_59 (fun _ => rfl) (fun _ => rfl) (by first | rfl | assumption) (by exact Nat.le_of_ble_eq_true rfl) ?_
    refine run_hp (show _ = PX f0 ++ hM nu tx ho pi rh rp pg tr bk kp ik ta tp ga gr va rw from rfl) ?_
    refine Run.aload_n d_Rf_giving_5 rfl ?_
    refine Run.getf d_Rf_giving_6 fl_Rf_70 (by first | rfl | assumption) (by rfl) ?_
    rw [hr.2.1]
    first | refine Run.if_eq_b d_Rf_giving_9 (fun c9 => ?_) (fun c9 => ?_) | refine Run.if_eq_n d_Rf_giving_9 (by omega) (fun c9 => ?_) (fun c9 => ?_) | refine Run.if_eq d_Rf_giving_9 (fun c9 => ?_) (fun c9 => ?_)
    · exact absurd c9 hn
    · refine Run.aload_n d_Rf_giving_12 rfl ?_
      refine Run.getf d_Rf_giving_13 fl_Rf_63 (by first | rfl | assumption) (by rfl) ?_
      rw [hr.1]
      first | refine Run.if_ne_b d_Rf_giving_16 (fun c16 => ?_) (fun c16 => ?_) | refine Run.if_ne_n d_Rf_giving_16 (by omega) (fun c16 => ?_) (fun c16 => ?_) | refine Run.if_ne d_Rf_giving_16 (fun c16 => ?_) (fun c16 => ?_)
      · refine Run.bipush (v := -9) d_Rf_giving_21 bp_m9 ?_
        refine Run.istore_n d_Rf_giving_23 rfl rfl ?_
        show Run _ _ _ _ _ _ [_, _, _, _, _, _, _, _] _ _ _
        refine Run.bipush (v := -9) d_Rf_giving_24 bp_m9 ?_
        refine Run.istore_n d_Rf_giving_26 rfl rfl ?_
        show Run _ _ _ _ _ _ [_, _, _, _, _, _, _, _] _ _ _
        refine Run.iconst (v := nI 0) d_Rf_giving_27 ic_0 ?_
        refine Run.istore d_Rf_giving_28 rfl rfl ?_
        show Run _ _ _ _ _ _ [_, _, _, _, _, _, _, _] _ _ _
        exact h30 0 (Nat.zero_le _) tr _ _ _
      · omega
end RGIVE
