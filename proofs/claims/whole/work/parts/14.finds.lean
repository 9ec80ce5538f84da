/-! ===== pieces held, tilts, finds, hours (the class) ===== -/
def oI (o : Option Nat) : Int32 := match o with
  | none => -9
  | some k => nI k
theorem nI_n9 {b : Nat} (hb : b < 2 ^ 31) : ¬ nI b = -9 := by
  intro q
  have h1 := nI_pos hb
  rw [q] at h1
  exact h1 (by decide)
/-- the first below e that is so -/
def fstN (P : Nat → Bool) : Nat → Option Nat
  | 0 => none
  | n + 1 => match fstN P n with
    | some k => some k
    | none => if P n = true then some n else none
theorem fstN_s {P : Nat → Bool} {i : Nat} (h : fstN P i = none) (hp : P i = true) : ∀ e, i < e → fstN P e = some i := by
  intro e he
  induction e with
  | zero => omega
  | succ e ih =>
    by_cases hie : i = e
    · subst hie
      simp [fstN, h, hp]
    · simp [fstN, ih (by omega)]
theorem fstN_n {P : Nat → Bool} {i : Nat} (h : fstN P i = none) (hp : P i = false) : fstN P (i + 1) = none := by
  simp [fstN, h, hp]
theorem fstN_lt {P : Nat → Bool} {e k : Nat} (h : fstN P e = some k) : k < e ∧ P k = true ∧ fstN P k = none := by
  induction e with
  | zero => simp [fstN] at h
  | succ e ih =>
    simp only [fstN] at h
    cases hf : fstN P e with
    | some a =>
      rw [hf] at h
      cases h
      have := ih hf
      exact ⟨by omega, this.2⟩
    | none =>
      rw [hf] at h
      dsimp only at h
      split at h
      · cases h
        rename_i hp
        exact ⟨by omega, hp, hf⟩
      · cases h
def heldF (p : PG) (j : Nat) : Nat → Nat → Nat := fun i acc => if pgW p i = j then acc ||| 2 ^ i else acc
def heldN (c : CA) (p : PG) (j : Nat) : Nat := itN (heldF p j) 0 (npC c)
def hptF (c : CA) (p : PG) (j : Nat) : Nat → Nat → Nat := fun i acc => if pgW p i = j then acc ||| 2 ^ ptC c i else acc
def hptN (c : CA) (p : PG) (j : Nat) : Nat := itN (hptF c p j) 0 (npC c)
def cntF (c : CA) (p : PG) (t : Nat) : Nat → Nat → Nat := fun i acc => if ptC c i = t ∧ sh c i (pgW p i) (angN p i) = true then acc + 1 else acc
def cntN (c : CA) (p : PG) (t : Nat) : Nat := itN (cntF c p t) 0 (npC c)
def tiltP (c : CA) (p : PG) (i j : Nat) : Nat → Bool := fun n => sh c i j ((angN p i + n) % 8) || sh c i j ((angN p i + (8 - n)) % 8)
def tiltN (c : CA) (p : PG) (i j : Nat) : Option Nat := fstN (tiltP c p i j) 5
def findF (c : CA) (p : PG) (j t : Nat) : Nat → Option Nat → Option Nat := fun i acc => if pgW p i = j ∧ ptC c i = t then (match tiltN c p i j with
  | none => acc
  | some b => match acc with
    | none => some b
    | some a => if b < a then some b else some a) else acc
def findN (c : CA) (p : PG) (j t : Nat) : Option Nat := itN (findF c p j t) none (npC c)
def whenP (c : CA) (p : PG) (j t : Nat) : Nat → Bool := fun n => (seenN c (hourN p n) j).testBit t
def whenN (c : CA) (p : PG) (j t : Nat) : Option Nat := fstN (whenP c p j t) 8
theorem hptN_lt {c : CA} (hc : coOK c) (p : PG) (j : Nat) : hptN c p j < 32 := by
  refine itN_inv (fun x => x < 32) (by decide) _ (fun i x hi hx => ?_)
  unfold hptF
  split
  · have h1 := (hc.2.2.2 i hi).1
    have h2 : 2 ^ ptC c i < 2 ^ 5 := Nat.pow_lt_pow_right (by omega) h1
    exact Nat.or_lt_two_pow (n := 5) hx h2
  · exact hx
theorem cntN_le (c : CA) (p : PG) (t n : Nat) : itN (cntF c p t) 0 n ≤ n := by
  induction n with
  | zero => exact Nat.le_refl _
  | succ n ih =>
    show cntF c p t n (itN (cntF c p t) 0 n) ≤ n + 1
    generalize itN (cntF c p t) 0 n = z at ih ⊢
    unfold cntF
    split <;> omega
theorem tiltN_lt {c : CA} {p : PG} {i j b : Nat} (h : tiltN c p i j = some b) : b < 5 := (fstN_lt h).1
theorem findN_lt {c : CA} {p : PG} {j t : Nat} (n b : Nat) (h : itN (findF c p j t) none n = some b) : b < 5 := by
  have key : ∀ b, itN (findF c p j t) none n = some b → b < 5 := by
    refine itN_inv (fun x : Option Nat => ∀ b, x = some b → b < 5) (fun b q => by cases q) _ (fun i x hi hx => ?_)
    unfold findF
    intro b hb
    split at hb
    · cases ht : tiltN c p i j with
      | none => rw [ht] at hb; exact hx b hb
      | some y =>
        rw [ht] at hb
        have hy := tiltN_lt ht
        cases x with
        | none => cases hb; exact hy
        | some a =>
          dsimp only at hb
          split at hb
          · cases hb; exact hy
          · cases hb; exact hx _ rfl
    · exact hx b hb
  exact key b h
section FINDS
variable {X : Nat × (Nat → Int32)} {d : Nat} {h : AH} {c : CA} {p : PG} {k : Nat}
theorem c_PM_piecesOf {j : Nat} (hc : coOK c) (hp : pgOK c p) (ht : TlAt h c) (hst : StAt h 15 c p) (hj : j < 100) : Call X d 0 0 M_PM_piecesOf [.ref 1, .int (nI j)] h (Ret (.int (nI (heldN c p j))) h) := by
  show Run X d 0 0 M_PM_piecesOf 0 [some (.ref 1), some (.int (nI j)), none, none] [] h _
  obtain ⟨kt, kd, sd, h0, hco⟩ := id ht
  obtain ⟨fhk, fpt, fan, fkd, fhd, li, g0, g1, g2, g3, g4, g5, hv1, hv2⟩ := hco
  obtain ⟨ft, fw, ke, s0, s1, s2, hw⟩ := id hst
  obtain ⟨b1, b2, b3, b4⟩ := id hc
  refine Run.iconst (v := nI 0) d_PM_piecesOf_0 ic_0 ?_
  refine Run.istore_n d_PM_piecesOf_1 rfl rfl ?_
  show Run _ _ _ _ _ _ [_, _, _, _] _ _ _
  refine Run.iconst (v := nI 0) d_PM_piecesOf_2 ic_0 ?_
  refine Run.istore_n d_PM_piecesOf_3 rfl rfl ?_
  show Run _ _ _ _ _ _ [_, _, _, _] _ _ _
  refine upto (npC c) (fun i => Run X d 0 0 M_PM_piecesOf 4 [some (.ref 1), some (.int (nI j)), some (.int (nI (itN (heldF p j) 0 i))), some (.int (nI i))] [] h _) ?_ 0 (Nat.zero_le _)
  intro i hi ih
  refine Run.iload_n d_PM_piecesOf_4 rfl ?_
  refine Run.aload_n d_PM_piecesOf_5 rfl ?_
  refine Run.getf d_PM_piecesOf_6 fl_PM_19 (by first | rfl | assumption) (by rfl) ?_
  refine Run.getf d_PM_piecesOf_9 fl_PM_101 (by first | rfl | assumption) (by rfl) ?_
  first | refine Run.icmp_ge_n d_PM_piecesOf_12 (by omega) (by omega) (fun c12 => ?_) (fun c12 => ?_) | refine Run.icmp_ge d_PM_piecesOf_12 (fun c12 => ?_) (fun c12 => ?_)
  · refine Run.iload_n d_PM_piecesOf_40 rfl ?_
    refine Run.iret d_PM_piecesOf_41 rfl rfl ?_
    exact ret_n (by rw [show i = npC c by omega]; rfl)
  · refine Run.aload_n d_PM_piecesOf_15 rfl ?_
    refine Run.getf d_PM_piecesOf_16 fl_PM_29 (by first | rfl | assumption) (by rfl) ?_
    refine Run.getf d_PM_piecesOf_19 fl_PM_148 (by first | rfl | assumption) (by rfl) ?_
    refine Run.iload_n d_PM_piecesOf_22 rfl ?_
    refine Run.iald_n d_PM_piecesOf_23 (by first | rfl | assumption) (by omega) (by omega) ?_
    rw [(hw i c12).2]
    have w1 := (hp.2.2 i c12).2
    refine Run.iload_n d_PM_piecesOf_24 rfl ?_
    first | refine Run.icmp_ne_n d_PM_piecesOf_25 (by omega) (by omega) (fun c25 => ?_) (fun c25 => ?_) | refine Run.icmp_ne d_PM_piecesOf_25 (fun c25 => ?_) (fun c25 => ?_)
    · first | refine Run.iinc_n d_PM_piecesOf_34 ic_1 rfl rfl ?_ | refine Run.iinc d_PM_piecesOf_34 rfl rfl rfl ?_
      show Run _ _ _ _ _ _ [_, _, _, _] _ _ _
      refine Run.goto d_PM_piecesOf_37 ?_
      exact run_cg (by simp [itN, heldF, c25]) (ih c12)
    · refine Run.iload_n d_PM_piecesOf_28 rfl ?_
      refine Run.iconst (v := nI 1) d_PM_piecesOf_29 ic_1 ?_
      refine Run.iload_n d_PM_piecesOf_30 rfl ?_
      have w3 : 2 ^ i < 2 ^ 6 := Nat.pow_lt_pow_right (by omega) (by omega)
      first | refine Run.ishl_n d_PM_piecesOf_31 (by omega) (by omega) ?_ | refine Run.ishl d_PM_piecesOf_31 ?_
      first | refine Run.ior_n d_PM_piecesOf_32 ?_ | refine Run.ior d_PM_piecesOf_32 ?_
      refine Run.istore_n d_PM_piecesOf_33 rfl rfl ?_
      show Run _ _ _ _ _ _ [_, _, _, _] _ _ _
      first | refine Run.iinc_n d_PM_piecesOf_34 ic_1 rfl rfl ?_ | refine Run.iinc d_PM_piecesOf_34 rfl rfl rfl ?_
      show Run _ _ _ _ _ _ [_, _, _, _] _ _ _
      refine Run.goto d_PM_piecesOf_37 ?_
      exact run_cg (by simp [itN, heldF, c25]) (ih c12)
theorem c_PM_partsHeld {j : Nat} (hc : coOK c) (hp : pgOK c p) (ht : TlAt h c) (hst : StAt h 15 c p) (hj : j < 100) : Call X d 0 0 M_PM_partsHeld [.ref 1, .int (nI j)] h (Ret (.int (nI (hptN c p j))) h) := by
  show Run X d 0 0 M_PM_partsHeld 0 [some (.ref 1), some (.int (nI j)), none, none] [] h _
  obtain ⟨kt, kd, sd, h0, hco⟩ := id ht
  obtain ⟨fhk, fpt, fan, fkd, fhd, li, g0, g1, g2, g3, g4, g5, hv1, hv2⟩ := hco
  obtain ⟨ft, fw, ke, s0, s1, s2, hw⟩ := id hst
  obtain ⟨b1, b2, b3, b4⟩ := id hc
  refine Run.iconst (v := nI 0) d_PM_partsHeld_0 ic_0 ?_
  refine Run.istore_n d_PM_partsHeld_1 rfl rfl ?_
  show Run _ _ _ _ _ _ [_, _, _, _] _ _ _
  refine Run.iconst (v := nI 0) d_PM_partsHeld_2 ic_0 ?_
  refine Run.istore_n d_PM_partsHeld_3 rfl rfl ?_
  show Run _ _ _ _ _ _ [_, _, _, _] _ _ _
  refine upto (npC c) (fun i => Run X d 0 0 M_PM_partsHeld 4 [some (.ref 1), some (.int (nI j)), some (.int (nI (itN (hptF c p j) 0 i))), some (.int (nI i))] [] h _) ?_ 0 (Nat.zero_le _)
  intro i hi ih
  refine Run.iload_n d_PM_partsHeld_4 rfl ?_
  refine Run.aload_n d_PM_partsHeld_5 rfl ?_
  refine Run.getf d_PM_partsHeld_6 fl_PM_19 (by first | rfl | assumption) (by rfl) ?_
  refine Run.getf d_PM_partsHeld_9 fl_PM_101 (by first | rfl | assumption) (by rfl) ?_
  first | refine Run.icmp_ge_n d_PM_partsHeld_12 (by omega) (by omega) (fun c12 => ?_) (fun c12 => ?_) | refine Run.icmp_ge d_PM_partsHeld_12 (fun c12 => ?_) (fun c12 => ?_)
  · refine Run.iload_n d_PM_partsHeld_48 rfl ?_
    refine Run.iret d_PM_partsHeld_49 rfl rfl ?_
    exact ret_n (by rw [show i = npC c by omega]; rfl)
  · refine Run.aload_n d_PM_partsHeld_15 rfl ?_
    refine Run.getf d_PM_partsHeld_16 fl_PM_29 (by first | rfl | assumption) (by rfl) ?_
    refine Run.getf d_PM_partsHeld_19 fl_PM_148 (by first | rfl | assumption) (by rfl) ?_
    refine Run.iload_n d_PM_partsHeld_22 rfl ?_
    refine Run.iald_n d_PM_partsHeld_23 (by first | rfl | assumption) (by omega) (by omega) ?_
    rw [(hw i c12).2]
    have w1 := (hp.2.2 i c12).2
    refine Run.iload_n d_PM_partsHeld_24 rfl ?_
    first | refine Run.icmp_ne_n d_PM_partsHeld_25 (by omega) (by omega) (fun c25 => ?_) (fun c25 => ?_) | refine Run.icmp_ne d_PM_partsHeld_25 (fun c25 => ?_) (fun c25 => ?_)
    · first | refine Run.iinc_n d_PM_partsHeld_42 ic_1 rfl rfl ?_ | refine Run.iinc d_PM_partsHeld_42 rfl rfl rfl ?_
      show Run _ _ _ _ _ _ [_, _, _, _] _ _ _
      refine Run.goto d_PM_partsHeld_45 ?_
      exact run_cg (by simp [itN, hptF, c25]) (ih c12)
    · refine Run.iload_n d_PM_partsHeld_28 rfl ?_
      refine Run.iconst (v := nI 1) d_PM_partsHeld_29 ic_1 ?_
      refine Run.aload_n d_PM_partsHeld_30 rfl ?_
      refine Run.getf d_PM_partsHeld_31 fl_PM_19 (by first | rfl | assumption) (by rfl) ?_
      refine Run.getf d_PM_partsHeld_34 fl_PM_136 (by first | rfl | assumption) (by rfl) ?_
      refine Run.iload_n d_PM_partsHeld_37 rfl ?_
      refine Run.iald_n d_PM_partsHeld_38 (by first | rfl | assumption) (by omega) (by omega) ?_
      rw [(hv2 i c12).1]
      have w2 := (b4 i c12).1
      have w3 : 2 ^ ptC c i < 2 ^ 5 := Nat.pow_lt_pow_right (by omega) w2
      first | refine Run.ishl_n d_PM_partsHeld_39 (by omega) (by omega) ?_ | refine Run.ishl d_PM_partsHeld_39 ?_
      first | refine Run.ior_n d_PM_partsHeld_40 ?_ | refine Run.ior d_PM_partsHeld_40 ?_
      refine Run.istore_n d_PM_partsHeld_41 rfl rfl ?_
      show Run _ _ _ _ _ _ [_, _, _, _] _ _ _
      first | refine Run.iinc_n d_PM_partsHeld_42 ic_1 rfl rfl ?_ | refine Run.iinc d_PM_partsHeld_42 rfl rfl rfl ?_
      show Run _ _ _ _ _ _ [_, _, _, _] _ _ _
      refine Run.goto d_PM_partsHeld_45 ?_
      exact run_cg (by simp [itN, hptF, c25]) (ih c12)
theorem c_PM_piecesThatShow {t : Nat} (hc : coOK c) (hp : pgOK c p) (ht : TlAt h c) (hst : StAt h 15 c p) (hj : t < 100) : Call X (d + 5) 0 0 M_PM_piecesThatShow [.ref 1, .int (nI t)] h (Ret (.int (nI (cntN c p t))) h) := by
  show Run X (d + 5) 0 0 M_PM_piecesThatShow 0 [some (.ref 1), some (.int (nI t)), none, none] [] h _
  obtain ⟨kt, kd, sd, h0, hco⟩ := id ht
  obtain ⟨fhk, fpt, fan, fkd, fhd, li, g0, g1, g2, g3, g4, g5, hv1, hv2⟩ := hco
  obtain ⟨ft, fw, ke, s0, s1, s2, hw⟩ := id hst
  obtain ⟨b1, b2, b3, b4⟩ := id hc
  refine Run.iconst (v := nI 0) d_PM_piecesThatShow_0 ic_0 ?_
  refine Run.istore_n d_PM_piecesThatShow_1 rfl rfl ?_
  show Run _ _ _ _ _ _ [_, _, _, _] _ _ _
  refine Run.iconst (v := nI 0) d_PM_piecesThatShow_2 ic_0 ?_
  refine Run.istore_n d_PM_piecesThatShow_3 rfl rfl ?_
  show Run _ _ _ _ _ _ [_, _, _, _] _ _ _
  refine upto (npC c) (fun i => Run X (d + 5) 0 0 M_PM_piecesThatShow 4 [some (.ref 1), some (.int (nI t)), some (.int (nI (itN (cntF c p t) 0 i))), some (.int (nI i))] [] h _) ?_ 0 (Nat.zero_le _)
  intro i hi ih
  refine Run.iload_n d_PM_piecesThatShow_4 rfl ?_
  refine Run.aload_n d_PM_piecesThatShow_5 rfl ?_
  refine Run.getf d_PM_piecesThatShow_6 fl_PM_19 (by first | rfl | assumption) (by rfl) ?_
  refine Run.getf d_PM_piecesThatShow_9 fl_PM_101 (by first | rfl | assumption) (by rfl) ?_
  first | refine Run.icmp_ge_n d_PM_piecesThatShow_12 (by omega) (by omega) (fun c12 => ?_) (fun c12 => ?_) | refine Run.icmp_ge d_PM_piecesThatShow_12 (fun c12 => ?_) (fun c12 => ?_)
  · refine Run.iload_n d_PM_piecesThatShow_59 rfl ?_
    refine Run.iret d_PM_piecesThatShow_60 rfl rfl ?_
    exact ret_n (by rw [show i = npC c by omega]; rfl)
  · refine Run.aload_n d_PM_piecesThatShow_15 rfl ?_
    refine Run.getf d_PM_piecesThatShow_16 fl_PM_19 (by first | rfl | assumption) (by rfl) ?_
    refine Run.getf d_PM_piecesThatShow_19 fl_PM_136 (by first | rfl | assumption) (by rfl) ?_
    refine Run.iload_n d_PM_piecesThatShow_22 rfl ?_
    refine Run.iald_n d_PM_piecesThatShow_23 (by first | rfl | assumption) (by omega) (by omega) ?_
    rw [(hv2 i c12).1]
    have w2 := (b4 i c12).1
    refine Run.iload_n d_PM_piecesThatShow_24 rfl ?_
    first | refine Run.icmp_ne_n d_PM_piecesThatShow_25 (by omega) (by omega) (fun c25 => ?_) (fun c25 => ?_) | refine Run.icmp_ne d_PM_piecesThatShow_25 (fun c25 => ?_) (fun c25 => ?_)
    · first | refine Run.iinc_n d_PM_piecesThatShow_53 ic_1 rfl rfl ?_ | refine Run.iinc d_PM_piecesThatShow_53 rfl rfl rfl ?_
      show Run _ _ _ _ _ _ [_, _, _, _] _ _ _
      refine Run.goto d_PM_piecesThatShow_56 ?_
      exact run_cg (by simp_all [itN, cntF, angN]) (ih c12)
    · refine Run.aload_n d_PM_piecesThatShow_28 rfl ?_
      refine Run.aload_n d_PM_piecesThatShow_29 rfl ?_
      refine Run.getf d_PM_piecesThatShow_30 fl_PM_29 (by first | rfl | assumption) (by rfl) ?_
      refine Run.iload_n d_PM_piecesThatShow_33 rfl ?_
      refine Run.aload_n d_PM_piecesThatShow_34 rfl ?_
      refine Run.getf d_PM_piecesThatShow_35 fl_PM_29 (by first | rfl | assumption) (by rfl) ?_
      refine Run.getf d_PM_piecesThatShow_38 fl_PM_148 (by first | rfl | assumption) (by rfl) ?_
      refine Run.iload_n d_PM_piecesThatShow_41 rfl ?_
      refine Run.iald_n d_PM_piecesThatShow_42 (by first | rfl | assumption) (by omega) (by omega) ?_
      rw [(hw i c12).2]
      have w1 := (hp.2.2 i c12).2
      refine Run.iconst (v := nI 0) d_PM_piecesThatShow_43 ic_0 ?_
      refine Run.V4r d_PM_piecesThatShow_44 lk_PM_154 cm_PM_showsAfter iv_PM_showsAfter rfl (by first | rfl | assumption) (Nat.le_of_ble_eq_true rfl) (Nat.le_of_ble_eq_true rfl) (c_PM_showsAfter hc hp ht hst c12 (by omega)) ?_
      rw [m8_nI, decide_eq_true w1, Bool.true_and]
      first | refine Run.if_eq_b d_PM_piecesThatShow_47 (fun c47 => ?_) (fun c47 => ?_) | refine Run.if_eq_n d_PM_piecesThatShow_47 (by omega) (fun c47 => ?_) (fun c47 => ?_) | refine Run.if_eq d_PM_piecesThatShow_47 (fun c47 => ?_) (fun c47 => ?_)
      · first | refine Run.iinc_n d_PM_piecesThatShow_53 ic_1 rfl rfl ?_ | refine Run.iinc d_PM_piecesThatShow_53 rfl rfl rfl ?_
        show Run _ _ _ _ _ _ [_, _, _, _] _ _ _
        refine Run.goto d_PM_piecesThatShow_56 ?_
        exact run_cg (by simp_all [itN, cntF, angN]) (ih c12)
      · first | refine Run.iinc_n d_PM_piecesThatShow_50 ic_1 rfl rfl ?_ | refine Run.iinc d_PM_piecesThatShow_50 rfl rfl rfl ?_
        show Run _ _ _ _ _ _ [_, _, _, _] _ _ _
        first | refine Run.iinc_n d_PM_piecesThatShow_53 ic_1 rfl rfl ?_ | refine Run.iinc d_PM_piecesThatShow_53 rfl rfl rfl ?_
        show Run _ _ _ _ _ _ [_, _, _, _] _ _ _
        refine Run.goto d_PM_piecesThatShow_56 ?_
        exact run_cg (by simp_all [itN, cntF, angN]) (ih c12)
theorem c_PM_fewestTilts {i j : Nat} (hc : coOK c) (hp : pgOK c p) (ht : TlAt h c) (hst : StAt h 15 c p) (hi : i < npC c) (hj : j < nhC c) : Call X (d + 5) 0 0 M_PM_fewestTilts [.ref 1, .int (nI i), .int (nI j)] h (Ret (.int (oI (tiltN c p i j))) h) := by
  show Run X (d + 5) 0 0 M_PM_fewestTilts 0 [some (.ref 1), some (.int (nI i)), some (.int (nI j)), none] [] h _
  obtain ⟨kt, kd, sd, h0, hco⟩ := id ht
  obtain ⟨ft, fw, ke, s0, s1, s2, hw⟩ := id hst
  have b1 := hc.1
  refine Run.iconst (v := nI 0) d_PM_fewestTilts_0 ic_0 ?_
  refine Run.istore_n d_PM_fewestTilts_1 rfl rfl ?_
  show Run _ _ _ _ _ _ [_, _, _, _] _ _ _
  refine upto 5 (fun n => fstN (tiltP c p i j) n = none → Run X (d + 5) 0 0 M_PM_fewestTilts 2 [some (.ref 1), some (.int (nI i)), some (.int (nI j)), some (.int (nI n))] [] h _) ?_ 0 (Nat.zero_le _) rfl
  intro n hn ih hf
  have e2 : n ≤ 4 → (angN p i + (8 - n % 8) % 8) % 8 = (angN p i + (8 - n)) % 8 := fun q => by omega
  have e1 : n ≤ 4 → n % 8 = n := fun q => by omega
  refine Run.iload_n d_PM_fewestTilts_2 rfl ?_
  refine Run.iconst (v := nI 4) d_PM_fewestTilts_3 ic_4 ?_
  first | refine Run.icmp_gt_n d_PM_fewestTilts_4 (by omega) (by omega) (fun c4 => ?_) (fun c4 => ?_) | refine Run.icmp_gt d_PM_fewestTilts_4 (fun c4 => ?_) (fun c4 => ?_)
  · refine Run.bipush (v := -9) d_PM_fewestTilts_44 bp_m9 ?_
    refine Run.iret d_PM_fewestTilts_46 rfl rfl ?_
    exact ret_i (by rw [tiltN, show 5 = n by omega, hf]; rfl)
  · refine Run.aload_n d_PM_fewestTilts_7 rfl ?_
    refine Run.aload_n d_PM_fewestTilts_8 rfl ?_
    refine Run.getf d_PM_fewestTilts_9 fl_PM_29 (by first | rfl | assumption) (by rfl) ?_
    refine Run.iload_n d_PM_fewestTilts_12 rfl ?_
    refine Run.iload_n d_PM_fewestTilts_13 rfl ?_
    refine Run.iload_n d_PM_fewestTilts_14 rfl ?_
    refine Run.V4r d_PM_fewestTilts_15 lk_PM_154 cm_PM_showsAfter iv_PM_showsAfter rfl (by first | rfl | assumption) (Nat.le_of_ble_eq_true rfl) (Nat.le_of_ble_eq_true rfl) (c_PM_showsAfter hc hp ht hst hi (by omega)) ?_
    rw [m8_nI, decide_eq_true hj, Bool.true_and, e1 c4]
    first | refine Run.if_ne_b d_PM_fewestTilts_18 (fun c18 => ?_) (fun c18 => ?_) | refine Run.if_ne_n d_PM_fewestTilts_18 (by omega) (fun c18 => ?_) (fun c18 => ?_) | refine Run.if_ne d_PM_fewestTilts_18 (fun c18 => ?_) (fun c18 => ?_)
    · refine Run.iload_n d_PM_fewestTilts_36 rfl ?_
      refine Run.iret d_PM_fewestTilts_37 rfl rfl ?_
      exact ret_i (by rw [tiltN, fstN_s hf (by simp [tiltP, *]) 5 (by omega)]; rfl)
    · refine Run.aload_n d_PM_fewestTilts_21 rfl ?_
      refine Run.aload_n d_PM_fewestTilts_22 rfl ?_
      refine Run.getf d_PM_fewestTilts_23 fl_PM_29 (by first | rfl | assumption) (by rfl) ?_
      refine Run.iload_n d_PM_fewestTilts_26 rfl ?_
      refine Run.iload_n d_PM_fewestTilts_27 rfl ?_
      refine Run.iload_n d_PM_fewestTilts_28 rfl ?_
      refine Run.ineg d_PM_fewestTilts_29 ?_
      refine Run.V4r d_PM_fewestTilts_30 lk_PM_154 cm_PM_showsAfter iv_PM_showsAfter rfl (by first | rfl | assumption) (Nat.le_of_ble_eq_true rfl) (Nat.le_of_ble_eq_true rfl) (c_PM_showsAfter hc hp ht hst hi (by omega)) ?_
      rw [m8_neg, m8_nI, decide_eq_true hj, Bool.true_and, e2 c4]
      first | refine Run.if_eq_b d_PM_fewestTilts_33 (fun c33 => ?_) (fun c33 => ?_) | refine Run.if_eq_n d_PM_fewestTilts_33 (by omega) (fun c33 => ?_) (fun c33 => ?_) | refine Run.if_eq d_PM_fewestTilts_33 (fun c33 => ?_) (fun c33 => ?_)
      · first | refine Run.iinc_n d_PM_fewestTilts_38 ic_1 rfl rfl ?_ | refine Run.iinc d_PM_fewestTilts_38 rfl rfl rfl ?_
        show Run _ _ _ _ _ _ [_, _, _, _] _ _ _
        refine Run.goto d_PM_fewestTilts_41 ?_
        exact ih (by omega) (fstN_n hf (by simp [tiltP, c18, c33]))
      · refine Run.iload_n d_PM_fewestTilts_36 rfl ?_
        refine Run.iret d_PM_fewestTilts_37 rfl rfl ?_
        exact ret_i (by rw [tiltN, fstN_s hf (by simp [tiltP, *]) 5 (by omega)]; rfl)
theorem c_PM_fewestTiltsToSee {j t : Nat} (hc : coOK c) (hp : pgOK c p) (ht : TlAt h c) (hst : StAt h 15 c p) (hj : j < nhC c) (htt : t < 100) : Call X (d + 6) 0 0 M_PM_fewestTiltsToSee [.ref 1, .int (nI j), .int (nI t)] h (Ret (.int (oI (findN c p j t))) h) := by
  show Run X (d + 6) 0 0 M_PM_fewestTiltsToSee 0 [some (.ref 1), some (.int (nI j)), some (.int (nI t)), none, none, none] [] h _
  obtain ⟨kt, kd, sd, h0, hco⟩ := id ht
  obtain ⟨fhk, fpt, fan, fkd, fhd, li, g0, g1, g2, g3, g4, g5, hv1, hv2⟩ := hco
  obtain ⟨ft, fw, ke, s0, s1, s2, hw⟩ := id hst
  obtain ⟨b1, b2, b3, b4⟩ := id hc
  refine Run.bipush (v := -9) d_PM_fewestTiltsToSee_0 bp_m9 ?_
  refine Run.istore_n d_PM_fewestTiltsToSee_2 rfl rfl ?_
  show Run _ _ _ _ _ _ [_, _, _, _, _, _] _ _ _
  refine Run.iconst (v := nI 0) d_PM_fewestTiltsToSee_3 ic_0 ?_
  refine Run.istore d_PM_fewestTiltsToSee_4 rfl rfl ?_
  show Run _ _ _ _ _ _ [_, _, _, _, _, _] _ _ _
  refine upto (npC c) (fun i => ∀ v5, Run X (d + 6) 0 0 M_PM_fewestTiltsToSee 6 [some (.ref 1), some (.int (nI j)), some (.int (nI t)), some (.int (oI (itN (findF c p j t) none i))), some (.int (nI i)), v5] [] h _) ?_ 0 (Nat.zero_le _) _
  intro i hi ih v5
  have h53 : i < npC c → pgW p i = j → ptC c i = t → Run X (d + 6) 0 0 M_PM_fewestTiltsToSee 53 [some (.ref 1), some (.int (nI j)), some (.int (nI t)), some (.int (oI (itN (findF c p j t) none i))), some (.int (nI i)), v5] [.int (oI (tiltN c p i j))] h (Ret (.int (oI (findN c p j t))) h) := by
    intro c15 c29 c43
    cases hb : tiltN c p i j with
    | none =>
      refine Run.istore d_PM_fewestTiltsToSee_53 rfl rfl ?_
      show Run _ _ _ _ _ _ [_, _, _, _, _, _] _ _ _
      refine Run.iload d_PM_fewestTiltsToSee_55 rfl ?_
      refine Run.bipush (v := -9) d_PM_fewestTiltsToSee_57 bp_m9 ?_
      first | refine Run.icmp_eq_n d_PM_fewestTiltsToSee_59 (by omega) (by omega) (fun c59 => ?_) (fun c59 => ?_) | refine Run.icmp_eq d_PM_fewestTiltsToSee_59 (fun c59 => ?_) (fun c59 => ?_)
      · first | refine Run.iinc_n d_PM_fewestTiltsToSee_77 ic_1 rfl rfl ?_ | refine Run.iinc d_PM_fewestTiltsToSee_77 rfl rfl rfl ?_
        show Run _ _ _ _ _ _ [_, _, _, _, _, _] _ _ _
        refine Run.goto d_PM_fewestTiltsToSee_80 ?_
        exact run_cg (by simp [itN, findF, c29, c43, hb]) (ih c15 (some (.int (oI none))))
      · exact absurd rfl c59
    | some b =>
      have hb5 := tiltN_lt hb
      cases ha : itN (findF c p j t) none i with
      | none =>
        show Run _ _ _ _ _ _ [_, _, _, some (.int (-9)), _, _] [.int (nI b)] _ _
        refine Run.istore d_PM_fewestTiltsToSee_53 rfl rfl ?_
        show Run _ _ _ _ _ _ [_, _, _, _, _, _] _ _ _
        refine Run.iload d_PM_fewestTiltsToSee_55 rfl ?_
        refine Run.bipush (v := -9) d_PM_fewestTiltsToSee_57 bp_m9 ?_
        first | refine Run.icmp_eq_n d_PM_fewestTiltsToSee_59 (by omega) (by omega) (fun c59 => ?_) (fun c59 => ?_) | refine Run.icmp_eq d_PM_fewestTiltsToSee_59 (fun c59 => ?_) (fun c59 => ?_)
        · exact absurd c59 (nI_n9 (by omega))
        · refine Run.iload_n d_PM_fewestTiltsToSee_62 rfl ?_
          refine Run.bipush (v := -9) d_PM_fewestTiltsToSee_63 bp_m9 ?_
          first | refine Run.icmp_eq_n d_PM_fewestTiltsToSee_65 (by omega) (by omega) (fun c65 => ?_) (fun c65 => ?_) | refine Run.icmp_eq d_PM_fewestTiltsToSee_65 (fun c65 => ?_) (fun c65 => ?_)
          · refine Run.iload d_PM_fewestTiltsToSee_74 rfl ?_
            refine Run.istore_n d_PM_fewestTiltsToSee_76 rfl rfl ?_
            show Run _ _ _ _ _ _ [_, _, _, _, _, _] _ _ _
            first | refine Run.iinc_n d_PM_fewestTiltsToSee_77 ic_1 rfl rfl ?_ | refine Run.iinc d_PM_fewestTiltsToSee_77 rfl rfl rfl ?_
            show Run _ _ _ _ _ _ [_, _, _, _, _, _] _ _ _
            refine Run.goto d_PM_fewestTiltsToSee_80 ?_
            exact run_cg (by simp [itN, findF, c29, c43, hb, ha, oI]) (ih c15 (some (.int (nI b))))
          · exact absurd rfl c65
      | some a =>
        have ha5 := findN_lt i a ha
        show Run _ _ _ _ _ _ [_, _, _, some (.int (nI a)), _, _] [.int (nI b)] _ _
        refine Run.istore d_PM_fewestTiltsToSee_53 rfl rfl ?_
        show Run _ _ _ _ _ _ [_, _, _, _, _, _] _ _ _
        refine Run.iload d_PM_fewestTiltsToSee_55 rfl ?_
        refine Run.bipush (v := -9) d_PM_fewestTiltsToSee_57 bp_m9 ?_
        first | refine Run.icmp_eq_n d_PM_fewestTiltsToSee_59 (by omega) (by omega) (fun c59 => ?_) (fun c59 => ?_) | refine Run.icmp_eq d_PM_fewestTiltsToSee_59 (fun c59 => ?_) (fun c59 => ?_)
        · exact absurd c59 (nI_n9 (by omega))
        · refine Run.iload_n d_PM_fewestTiltsToSee_62 rfl ?_
          refine Run.bipush (v := -9) d_PM_fewestTiltsToSee_63 bp_m9 ?_
          first | refine Run.icmp_eq_n d_PM_fewestTiltsToSee_65 (by omega) (by omega) (fun c65 => ?_) (fun c65 => ?_) | refine Run.icmp_eq d_PM_fewestTiltsToSee_65 (fun c65 => ?_) (fun c65 => ?_)
          · exact absurd c65 (nI_n9 (by omega))
          · refine Run.iload d_PM_fewestTiltsToSee_68 rfl ?_
            refine Run.iload_n d_PM_fewestTiltsToSee_70 rfl ?_
            first | refine Run.icmp_ge_n d_PM_fewestTiltsToSee_71 (by omega) (by omega) (fun c71 => ?_) (fun c71 => ?_) | refine Run.icmp_ge d_PM_fewestTiltsToSee_71 (fun c71 => ?_) (fun c71 => ?_)
            · first | refine Run.iinc_n d_PM_fewestTiltsToSee_77 ic_1 rfl rfl ?_ | refine Run.iinc d_PM_fewestTiltsToSee_77 rfl rfl rfl ?_
              show Run _ _ _ _ _ _ [_, _, _, _, _, _] _ _ _
              refine Run.goto d_PM_fewestTiltsToSee_80 ?_
              first
              | (refine run_cg ?_ (ih c15 (some (.int (nI b)))); simp [itN, findF, c29, c43, hb, ha, oI, c71]; done)
              | (refine run_cg ?_ (ih c15 (some (.int (nI b)))); simp [itN, findF, c29, c43, hb, ha, oI, Nat.not_lt.mpr c71]; done)
            · refine Run.iload d_PM_fewestTiltsToSee_74 rfl ?_
              refine Run.istore_n d_PM_fewestTiltsToSee_76 rfl rfl ?_
              show Run _ _ _ _ _ _ [_, _, _, _, _, _] _ _ _
              first | refine Run.iinc_n d_PM_fewestTiltsToSee_77 ic_1 rfl rfl ?_ | refine Run.iinc d_PM_fewestTiltsToSee_77 rfl rfl rfl ?_
              show Run _ _ _ _ _ _ [_, _, _, _, _, _] _ _ _
              refine Run.goto d_PM_fewestTiltsToSee_80 ?_
              first
              | (refine run_cg ?_ (ih c15 (some (.int (nI b)))); simp [itN, findF, c29, c43, hb, ha, oI, c71]; done)
              | (refine run_cg ?_ (ih c15 (some (.int (nI b)))); simp [itN, findF, c29, c43, hb, ha, oI, Nat.not_lt.mpr c71]; done)
  refine Run.iload d_PM_fewestTiltsToSee_6 rfl ?_
  refine Run.aload_n d_PM_fewestTiltsToSee_8 rfl ?_
  refine Run.getf d_PM_fewestTiltsToSee_9 fl_PM_19 (by first | rfl | assumption) (by rfl) ?_
  refine Run.getf d_PM_fewestTiltsToSee_12 fl_PM_101 (by first | rfl | assumption) (by rfl) ?_
  first | refine Run.icmp_ge_n d_PM_fewestTiltsToSee_15 (by omega) (by omega) (fun c15 => ?_) (fun c15 => ?_) | refine Run.icmp_ge d_PM_fewestTiltsToSee_15 (fun c15 => ?_) (fun c15 => ?_)
  · refine Run.iload_n d_PM_fewestTiltsToSee_83 rfl ?_
    refine Run.iret d_PM_fewestTiltsToSee_84 rfl rfl ?_
    exact ret_i (by rw [show i = npC c by omega]; rfl)
  · refine Run.aload_n d_PM_fewestTiltsToSee_18 rfl ?_
    refine Run.getf d_PM_fewestTiltsToSee_19 fl_PM_29 (by first | rfl | assumption) (by rfl) ?_
    refine Run.getf d_PM_fewestTiltsToSee_22 fl_PM_148 (by first | rfl | assumption) (by rfl) ?_
    refine Run.iload d_PM_fewestTiltsToSee_25 rfl ?_
    refine Run.iald_n d_PM_fewestTiltsToSee_27 (by first | rfl | assumption) (by omega) (by omega) ?_
    rw [(hw i c15).2]
    have w1 := (hp.2.2 i c15).2
    refine Run.iload_n d_PM_fewestTiltsToSee_28 rfl ?_
    first | refine Run.icmp_ne_n d_PM_fewestTiltsToSee_29 (by omega) (by omega) (fun c29 => ?_) (fun c29 => ?_) | refine Run.icmp_ne d_PM_fewestTiltsToSee_29 (fun c29 => ?_) (fun c29 => ?_)
    · first | refine Run.iinc_n d_PM_fewestTiltsToSee_77 ic_1 rfl rfl ?_ | refine Run.iinc d_PM_fewestTiltsToSee_77 rfl rfl rfl ?_
      show Run _ _ _ _ _ _ [_, _, _, _, _, _] _ _ _
      refine Run.goto d_PM_fewestTiltsToSee_80 ?_
      first
      | (refine run_cg ?_ (ih c15 v5); simp [itN, findF, c29]; done)
      | (refine run_cg ?_ (ih c15 v5); simp [itN, findF, c43]; done)
    · refine Run.aload_n d_PM_fewestTiltsToSee_32 rfl ?_
      refine Run.getf d_PM_fewestTiltsToSee_33 fl_PM_19 (by first | rfl | assumption) (by rfl) ?_
      refine Run.getf d_PM_fewestTiltsToSee_36 fl_PM_136 (by first | rfl | assumption) (by rfl) ?_
      refine Run.iload d_PM_fewestTiltsToSee_39 rfl ?_
      refine Run.iald_n d_PM_fewestTiltsToSee_41 (by first | rfl | assumption) (by omega) (by omega) ?_
      rw [(hv2 i c15).1]
      have w2 := (b4 i c15).1
      refine Run.iload_n d_PM_fewestTiltsToSee_42 rfl ?_
      first | refine Run.icmp_ne_n d_PM_fewestTiltsToSee_43 (by omega) (by omega) (fun c43 => ?_) (fun c43 => ?_) | refine Run.icmp_ne d_PM_fewestTiltsToSee_43 (fun c43 => ?_) (fun c43 => ?_)
      · first | refine Run.iinc_n d_PM_fewestTiltsToSee_77 ic_1 rfl rfl ?_ | refine Run.iinc d_PM_fewestTiltsToSee_77 rfl rfl rfl ?_
        show Run _ _ _ _ _ _ [_, _, _, _, _, _] _ _ _
        refine Run.goto d_PM_fewestTiltsToSee_80 ?_
        first
        | (refine run_cg ?_ (ih c15 v5); simp [itN, findF, c29]; done)
        | (refine run_cg ?_ (ih c15 v5); simp [itN, findF, c43]; done)
      · refine Run.aload_n d_PM_fewestTiltsToSee_46 rfl ?_
        refine Run.iload d_PM_fewestTiltsToSee_47 rfl ?_
        refine Run.iload_n d_PM_fewestTiltsToSee_49 rfl ?_
        refine Run.V2r d_PM_fewestTiltsToSee_50 lk_PM_183 cm_PM_fewestTilts iv_PM_fewestTilts rfl (by first | rfl | assumption) (Nat.le_of_ble_eq_true rfl) (Nat.le_of_ble_eq_true rfl) (c_PM_fewestTilts hc hp ht hst c15 hj) ?_
        exact h53 c15 c29 c43
theorem c_PM_hoursUntilSeen {j t : Nat} (hc : coOK c) (hp : pgOK c p) (ht : TlAt h c) (hst : StAt h 15 c p) (hj : j < nhC c) (htt : t < 5) : Call X (d + 6) 0 0 M_PM_hoursUntilSeen [.ref 1, .int (nI j), .int (nI t)] h (Ret (.int (oI (whenN c p j t))) h) := by
  show Run X (d + 6) 0 0 M_PM_hoursUntilSeen 0 [some (.ref 1), some (.int (nI j)), some (.int (nI t)), none] [] h _
  obtain ⟨kt, kd, sd, h0, hco⟩ := id ht
  obtain ⟨ft, fw, ke, s0, s1, s2, hw⟩ := id hst
  refine Run.iconst (v := nI 0) d_PM_hoursUntilSeen_0 ic_0 ?_
  refine Run.istore_n d_PM_hoursUntilSeen_1 rfl rfl ?_
  show Run _ _ _ _ _ _ [_, _, _, _] _ _ _
  refine upto 8 (fun n => fstN (whenP c p j t) n = none → Run X (d + 6) 0 0 M_PM_hoursUntilSeen 2 [some (.ref 1), some (.int (nI j)), some (.int (nI t)), some (.int (nI n))] [] h _) ?_ 0 (Nat.zero_le _) rfl
  intro n hn ih hf
  have w1 := seenN_lt hc (hourN p n) j
  refine Run.iload_n d_PM_hoursUntilSeen_2 rfl ?_
  refine Run.bipush (v := nI 8) d_PM_hoursUntilSeen_3 bp_8 ?_
  first | refine Run.icmp_ge_n d_PM_hoursUntilSeen_5 (by omega) (by omega) (fun c5 => ?_) (fun c5 => ?_) | refine Run.icmp_ge d_PM_hoursUntilSeen_5 (fun c5 => ?_) (fun c5 => ?_)
  · refine Run.bipush (v := -9) d_PM_hoursUntilSeen_33 bp_m9 ?_
    refine Run.iret d_PM_hoursUntilSeen_35 rfl rfl ?_
    exact ret_i (by rw [whenN, show 8 = n by omega, hf]; rfl)
  · refine Run.aload_n d_PM_hoursUntilSeen_8 rfl ?_
    refine Run.aload_n d_PM_hoursUntilSeen_9 rfl ?_
    refine Run.getf d_PM_hoursUntilSeen_10 fl_PM_29 (by first | rfl | assumption) (by rfl) ?_
    refine Run.iload_n d_PM_hoursUntilSeen_13 rfl ?_
    refine Run.iload_n d_PM_hoursUntilSeen_14 rfl ?_
    refine Run.V3r d_PM_hoursUntilSeen_15 lk_PM_129 cm_PM_partsSeen iv_PM_partsSeen rfl (by first | rfl | assumption) (Nat.le_of_ble_eq_true rfl) (Nat.le_of_ble_eq_true rfl) (c_PM_partsSeen hc hp ht hst hj (by omega)) ?_
    refine Run.iload_n d_PM_hoursUntilSeen_18 rfl ?_
    refine Run.S2r d_PM_hoursUntilSeen_19 lk_PM_193 cm_PM_hasBit st_PM_hasBit (Nat.le_of_ble_eq_true rfl) (Nat.le_of_ble_eq_true rfl) (c_PM_hasBit (by omega) (by omega)) ?_
    first | refine Run.if_eq_b d_PM_hoursUntilSeen_22 (fun c22 => ?_) (fun c22 => ?_) | refine Run.if_eq_n d_PM_hoursUntilSeen_22 (by omega) (fun c22 => ?_) (fun c22 => ?_) | refine Run.if_eq d_PM_hoursUntilSeen_22 (fun c22 => ?_) (fun c22 => ?_)
    · first | refine Run.iinc_n d_PM_hoursUntilSeen_27 ic_1 rfl rfl ?_ | refine Run.iinc d_PM_hoursUntilSeen_27 rfl rfl rfl ?_
      show Run _ _ _ _ _ _ [_, _, _, _] _ _ _
      refine Run.goto d_PM_hoursUntilSeen_30 ?_
      exact ih (by omega) (fstN_n hf c22)
    · refine Run.iload_n d_PM_hoursUntilSeen_25 rfl ?_
      refine Run.iret d_PM_hoursUntilSeen_26 rfl rfl ?_
      exact ret_i (by rw [whenN, fstN_s hf c22 8 (by omega)]; rfl)
/-- what one has of a piece: 2 if it shows, less 1 if one tilts -/
def gain (b : Bool) (o : Nat) : Int32 := nI (if b = true then 2 else 0) - nI o
theorem c_PM_worth {i j o n : Nat} (hc : coOK c) (hp : pgOK c p) (ht : TlAt h c) (hst : StAt h 15 c p) (hi : i < npC c) (hj : j < nhC c) : Call X (d + 5) 0 0 M_PM_worth [.ref 1, .int (nI i), .int (nI j), .int (nI o), .int (nI n)] h (Ret (.int (gain (sh c i j ((angN p i + n) % 8)) o)) h) := by
  show Run X (d + 5) 0 0 M_PM_worth 0 [some (.ref 1), some (.int (nI i)), some (.int (nI j)), some (.int (nI o)), some (.int (nI n))] [] h _
  obtain ⟨kt, kd, sd, h0, hco⟩ := id ht
  obtain ⟨ft, fw, ke, s0, s1, s2, hw⟩ := id hst
  have b1 := hc.1
  have e1 : (angN p i + n % 8) % 8 = (angN p i + n) % 8 := by omega
  refine Run.aload_n d_PM_worth_0 rfl ?_
  refine Run.aload_n d_PM_worth_1 rfl ?_
  refine Run.getf d_PM_worth_2 fl_PM_29 (by first | rfl | assumption) (by rfl) ?_
  refine Run.iload_n d_PM_worth_5 rfl ?_
  refine Run.iload_n d_PM_worth_6 rfl ?_
  refine Run.iload d_PM_worth_7 rfl ?_
  refine Run.V4r d_PM_worth_9 lk_PM_154 cm_PM_showsAfter iv_PM_showsAfter rfl (by first | rfl | assumption) (Nat.le_of_ble_eq_true rfl) (Nat.le_of_ble_eq_true rfl) (c_PM_showsAfter hc hp ht hst hi (by omega)) ?_
  rw [m8_nI, decide_eq_true hj, Bool.true_and, e1]
  first | refine Run.if_eq_b d_PM_worth_12 (fun c12 => ?_) (fun c12 => ?_) | refine Run.if_eq_n d_PM_worth_12 (by omega) (fun c12 => ?_) (fun c12 => ?_) | refine Run.if_eq d_PM_worth_12 (fun c12 => ?_) (fun c12 => ?_)
  · refine Run.iconst (v := nI 0) d_PM_worth_19 ic_0 ?_
    refine Run.iload_n d_PM_worth_20 rfl ?_
    refine Run.isub d_PM_worth_21 ?_
    refine Run.iret d_PM_worth_22 rfl rfl ?_
    exact ret_i (by simp [gain, c12])
  · refine Run.iconst (v := nI 2) d_PM_worth_15 ic_2 ?_
    refine Run.goto d_PM_worth_16 ?_
    refine Run.iload_n d_PM_worth_20 rfl ?_
    refine Run.isub d_PM_worth_21 ?_
    refine Run.iret d_PM_worth_22 rfl rfl ?_
    exact ret_i (by simp [gain, c12])
def staysN (c : CA) (p : PG) (i j o n : Nat) : Bool := decide (gain (sh c i j ((angN p i + (1 - o + n)) % 8)) (1 - o) ≤ gain (sh c i j ((angN p i + (o + n)) % 8)) o)
theorem c_PM_staysWith {i j o n : Nat} (hc : coOK c) (hp : pgOK c p) (ht : TlAt h c) (hst : StAt h 15 c p) (hi : i < npC c) (hj : j < nhC c) (ho : o ≤ 1) (hn : n ≤ 1) : Call X (d + 6) 0 0 M_PM_staysWith [.ref 1, .int (nI i), .int (nI j), .int (nI o), .int (nI n)] h (Ret (.int (bI (staysN c p i j o n))) h) := by
  show Run X (d + 6) 0 0 M_PM_staysWith 0 [some (.ref 1), some (.int (nI i)), some (.int (nI j)), some (.int (nI o)), some (.int (nI n)), none] [] h _
  obtain ⟨kt, kd, sd, h0, hco⟩ := id ht
  refine Run.iconst (v := nI 1) d_PM_staysWith_0 ic_1 ?_
  refine Run.iload_n d_PM_staysWith_1 rfl ?_
  first | refine Run.isub_n d_PM_staysWith_2 (by omega) ?_ | refine Run.isub d_PM_staysWith_2 ?_
  refine Run.istore d_PM_staysWith_3 rfl rfl ?_
  show Run _ _ _ _ _ _ [_, _, _, _, _, _] _ _ _
  refine Run.aload_n d_PM_staysWith_5 rfl ?_
  refine Run.iload_n d_PM_staysWith_6 rfl ?_
  refine Run.iload_n d_PM_staysWith_7 rfl ?_
  refine Run.iload_n d_PM_staysWith_8 rfl ?_
  refine Run.iload_n d_PM_staysWith_9 rfl ?_
  refine Run.iload d_PM_staysWith_10 rfl ?_
  first | refine Run.iadd_n d_PM_staysWith_12 ?_ | refine Run.iadd d_PM_staysWith_12 ?_
  refine Run.V4r d_PM_staysWith_13 lk_PM_299 cm_PM_worth iv_PM_worth rfl (by first | rfl | assumption) (Nat.le_of_ble_eq_true rfl) (Nat.le_of_ble_eq_true rfl) (c_PM_worth hc hp ht hst hi hj) ?_
  refine Run.aload_n d_PM_staysWith_16 rfl ?_
  refine Run.iload_n d_PM_staysWith_17 rfl ?_
  refine Run.iload_n d_PM_staysWith_18 rfl ?_
  refine Run.iload d_PM_staysWith_19 rfl ?_
  refine Run.iload d_PM_staysWith_21 rfl ?_
  refine Run.iload d_PM_staysWith_23 rfl ?_
  first | refine Run.iadd_n d_PM_staysWith_25 ?_ | refine Run.iadd d_PM_staysWith_25 ?_
  refine Run.V4r d_PM_staysWith_26 lk_PM_299 cm_PM_worth iv_PM_worth rfl (by first | rfl | assumption) (Nat.le_of_ble_eq_true rfl) (Nat.le_of_ble_eq_true rfl) (c_PM_worth hc hp ht hst hi hj) ?_
  first | refine Run.icmp_lt_n d_PM_staysWith_29 (by omega) (by omega) (fun c29 => ?_) (fun c29 => ?_) | refine Run.icmp_lt d_PM_staysWith_29 (fun c29 => ?_) (fun c29 => ?_)
  · refine Run.iconst (v := nI 0) d_PM_staysWith_36 ic_0 ?_
    refine Run.iret d_PM_staysWith_37 rfl (by first | exact bI_nar _ | decide +kernel) ?_
    first | exact ret_f (decide_eq_false (Int32.not_le.mpr c29)) | exact ret_t (decide_eq_true (Int32.not_lt.mp c29))
  · refine Run.iconst (v := nI 1) d_PM_staysWith_32 ic_1 ?_
    refine Run.goto d_PM_staysWith_33 ?_
    refine Run.iret d_PM_staysWith_37 rfl (by first | exact bI_nar _ | decide +kernel) ?_
    first | exact ret_f (decide_eq_false (Int32.not_le.mpr c29)) | exact ret_t (decide_eq_true (Int32.not_lt.mp c29))
end FINDS
