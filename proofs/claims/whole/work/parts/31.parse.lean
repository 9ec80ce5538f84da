/-! ===== the text as a coast, byte by byte ===== -/
def updN (f : Nat → Nat) (k v : Nat) : Nat → Nat := fun j => if j = k then v else f j
theorem updN_s {f : Nat → Nat} {k v : Nat} : updN f k v k = v := if_pos rfl
theorem updN_n {f : Nat → Nat} {k v j : Nat} (h : j ≠ k) : updN f k v j = f j := if_neg h
/-- what is due, light, holders' kinds, parts, angles, kinds, who holds; how many holders, pieces -/
abbrev PS : Type := Nat × Nat × (Nat → Nat) × (Nat → Nat) × (Nat → Nat) × (Nat → Nat) × (Nat → Nat) × Nat × Nat
def psS (q : PS) (b : Nat) : Option PS := match q with
  | (du, li, hk, pt, an, kd, hd, nh, np) =>
    if du = 0 then (if b = 80 then some (1, li, hk, pt, an, kd, hd, nh, np) else none)
    else if du = 1 then (if 48 ≤ b ∧ b < 48 + 8 then some (2, b - 48, hk, pt, an, kd, hd, nh, np) else none)
    else if du = 2 then (if b = 72 ∧ nh < 4 then some (3, li, hk, pt, an, kd, hd, nh, np) else if b = 67 ∧ 0 < nh ∧ np < 6 then some (4, li, hk, pt, an, kd, hd, nh, np) else none)
    else if du = 3 then (if 48 ≤ b ∧ b < 48 + 4 then some (2, li, updN hk nh (b - 48), pt, an, kd, hd, nh + 1, np) else none)
    else if du = 4 then (if 48 ≤ b ∧ b < 48 + 5 then some (5, li, hk, updN pt np (b - 48), an, kd, hd, nh, np) else none)
    else if du = 5 then (if 48 ≤ b ∧ b < 48 + 8 then some (6, li, hk, pt, updN an np (b - 48), kd, hd, nh, np) else none)
    else if du = 6 then (if 48 ≤ b ∧ b < 48 + 4 then some (7, li, hk, pt, an, updN kd np (b - 48), hd, nh, np) else none)
    else if 48 ≤ b ∧ b < 48 + nh then some (2, li, hk, pt, an, kd, updN hd np (b - 48), nh, np + 1) else none
/-- what holds of what is read -/
def psOK (q : PS) : Prop := match q with
  | (du, li, hk, pt, an, kd, hd, nh, np) => du ≤ 7 ∧ nh ≤ 4 ∧ np ≤ 6 ∧ (2 ≤ du → li < 8) ∧ (du = 3 → nh < 4) ∧ (4 ≤ du → np < 6 ∧ 0 < nh) ∧ (∀ j, j < nh → hk j < 4) ∧ (∀ i, i < np → pt i < 5 ∧ an i < 8 ∧ kd i < 4 ∧ hd i < nh) ∧ (5 ≤ du → pt np < 5) ∧ (6 ≤ du → an np < 8) ∧ (7 ≤ du → kd np < 4)
def ps0 : PS := (0, 0, fun _ => 0, fun _ => 0, fun _ => 0, fun _ => 0, fun _ => 0, 0, 0)
def psI (bt : Nat → Nat) : Nat → Option PS := itN (fun k o => o.bind (fun q => psS q (bt k))) (some ps0)
def psB (bt : Nat → Nat) : Nat → Bool := fun k => (psI bt (k + 1)).isNone
def dueO (o : Option PS) : Nat := match o with
  | none => 0
  | some q => q.1
def fltR (bt : Nat → Nat) (n : Nat) : Int32 := match fstN (psB bt) n with
  | some k => nI k
  | none => if dueO (psI bt n) = 2 then -9 else nI n
theorem psI_s {bt : Nat → Nat} {q : PS} {k : Nat} (h : psI bt k = some q) : psI bt (k + 1) = psS q (bt k) := by
  show (itN (fun k o => o.bind (fun q => psS q (bt k))) (some ps0) k).bind (fun q => psS q (bt k)) = _
  rw [show itN (fun k o => o.bind (fun q => psS q (bt k))) (some ps0) k = some q from h]
  rfl
theorem psI_p {bt : Nat → Nat} {q : PS} {k : Nat} (h : psI bt (k + 1) = some q) : ∃ q0, psI bt k = some q0 := by
  cases h0 : psI bt k with
  | some q0 => exact ⟨q0, rfl⟩
  | none =>
    have h' : (itN (fun k o => o.bind (fun q => psS q (bt k))) (some ps0) k).bind (fun q => psS q (bt k)) = some q := h
    rw [show itN (fun k o => o.bind (fun q => psS q (bt k))) (some ps0) k = none from h0] at h'
    cases h'
theorem psI_f {bt : Nat → Nat} : ∀ {k : Nat} {q : PS}, psI bt k = some q → fstN (psB bt) k = none := by
  intro k
  induction k with
  | zero => intro q h; rfl
  | succ k ih =>
    intro q h
    obtain ⟨q0, h0⟩ := psI_p h
    exact fstN_n (ih h0) (by rw [psB, h]; rfl)
theorem flt_bad {bt : Nat → Nat} {q : PS} {k n : Nat} (h : psI bt k = some q) (hb : psS q (bt k) = none) (hk : k < n) : fltR bt n = nI k := by
  rw [fltR, fstN_s (psI_f h) (by rw [psB, psI_s h, hb]; rfl) n hk]
theorem flt_end {bt : Nat → Nat} {q : PS} {n : Nat} (h : psI bt n = some q) : fltR bt n = if q.1 = 2 then -9 else nI n := by
  rw [fltR, psI_f h, h]
  rfl
theorem flt_ok {bt : Nat → Nat} {n : Nat} (hn : n < 2 ^ 31) (h : fltR bt n = -9) : ∃ q, psI bt n = some q ∧ q.1 = 2 := by
  cases hI : psI bt n with
  | some q =>
    rw [flt_end hI] at h
    split at h
    · exact ⟨q, rfl, by assumption⟩
    · exact absurd h (nI_n9 hn)
  | none =>
    exfalso
    have key : ∀ m, psI bt m = none → ∃ k, k < m ∧ fstN (psB bt) m = some k := by
      intro m
      induction m with
      | zero => intro q; cases q
      | succ m ih =>
        intro q
        cases hm : psI bt m with
        | none =>
          obtain ⟨k, h1, h2⟩ := ih hm
          have h3 := fstN_lt h2
          exact ⟨k, by omega, fstN_s h3.2.2 h3.2.1 _ (by omega)⟩
        | some q0 => exact ⟨m, by omega, fstN_s (psI_f hm) (by rw [psB, q]; rfl) _ (by omega)⟩
    obtain ⟨k, h1, h2⟩ := key n hI
    rw [fltR, h2] at h
    exact absurd h (nI_n9 (by omega))
theorem psS_ok {q q2 : PS} {b : Nat} (hq : psOK q) (h : psS q b = some q2) : psOK q2 := by
  obtain ⟨du, li, hk, pt, an, kd, hd, nh, np⟩ := q
  obtain ⟨a1, a2, a3, a4, a5, a6, a7, a8, a9, a10, a11⟩ := hq
  unfold psS at h
  dsimp only at h
  have up : ∀ (f : Nat → Nat) (k v B : Nat), (∀ j, j < k → f j < B) → v < B → ∀ j, j < k + 1 → updN f k v j < B := by
    intro f k v B h1 h2 j hj
    by_cases e : j = k
    · subst e; rw [updN_s]; exact h2
    · rw [updN_n e]; exact h1 j (by omega)
  split at h
  · split at h
    · cases h
      exact ⟨by omega, a2, a3, by omega, by omega, by omega, a7, a8, by omega, by omega, by omega⟩
    · cases h
  · split at h
    · split at h
      · cases h
        exact ⟨by omega, a2, a3, by omega, by omega, by omega, a7, a8, by omega, by omega, by omega⟩
      · cases h
    · split at h
      · split at h
        · cases h
          exact ⟨by omega, a2, a3, fun _ => a4 (by omega), by omega, by omega, a7, a8, by omega, by omega, by omega⟩
        · split at h
          · cases h
            exact ⟨by omega, a2, a3, fun _ => a4 (by omega), by omega, by omega, a7, a8, by omega, by omega, by omega⟩
          · cases h
      · split at h
        · split at h
          · cases h
            have a5' := a5 (by omega)
            exact ⟨by omega, by omega, a3, fun _ => a4 (by omega), by omega, by omega, up hk nh _ 4 a7 (by omega), fun i hi => ⟨(a8 i hi).1, (a8 i hi).2.1, (a8 i hi).2.2.1, by have := (a8 i hi).2.2.2; omega⟩, by omega, by omega, by omega⟩
          · cases h
        · have a6' := a6 (by omega)
          have a4' := a4 (by omega)
          split at h
          · split at h
            · cases h
              refine ⟨by omega, a2, a3, fun _ => a4', by omega, fun _ => a6', a7, fun i hi => ?_, fun _ => by rw [updN_s]; omega, by omega, by omega⟩
              rw [updN_n (by omega)]
              exact a8 i hi
            · cases h
          · have a9' := a9 (by omega)
            split at h
            · split at h
              · cases h
                refine ⟨by omega, a2, a3, fun _ => a4', by omega, fun _ => a6', a7, fun i hi => ?_, fun _ => a9', fun _ => by rw [updN_s]; omega, by omega⟩
                rw [updN_n (by omega)]
                exact a8 i hi
              · cases h
            · have a10' := a10 (by omega)
              split at h
              · split at h
                · cases h
                  refine ⟨by omega, a2, a3, fun _ => a4', by omega, fun _ => a6', a7, fun i hi => ?_, fun _ => a9', fun _ => a10', fun _ => by rw [updN_s]; omega⟩
                  rw [updN_n (by omega)]
                  exact a8 i hi
                · cases h
              · have a11' := a11 (by omega)
                split at h
                · cases h
                  refine ⟨by omega, a2, by omega, fun _ => a4', by omega, by omega, a7, fun i hi => ?_, by omega, by omega, by omega⟩
                  by_cases e : i = np
                  · subst e
                    rw [updN_s]
                    exact ⟨a9', a10', a11', by omega⟩
                  · rw [updN_n e]
                    exact a8 i (by omega)
                · cases h
theorem psI_ok {bt : Nat → Nat} : ∀ {k : Nat} {q : PS}, psI bt k = some q → psOK q := by
  intro k
  induction k with
  | zero =>
    intro q h
    cases h
    exact ⟨by omega, by omega, by omega, by omega, by omega, by omega, fun j hj => by omega, fun i hi => by omega, by omega, by omega, by omega⟩
  | succ k ih =>
    intro q h
    obtain ⟨q0, h0⟩ := psI_p h
    rw [psI_s h0] at h
    exact psS_ok (ih h0) h
/-- a figure of a byte -/
theorem fg_in {b L : Nat} (hb : b < 256) (hL : L ≤ 100) : inB (nI b - nI 48) L = decide (48 ≤ b ∧ b < 48 + L) := by
  by_cases h : 48 ≤ b
  · rw [pk_sub h, inB_nI (by omega) (by omega), decide_eq_decide]
    omega
  · rw [decide_eq_false (fun z => h z.1), inB, decide_eq_false (Int32.not_le.mpr (pk_sneg (by omega) (by omega))), Bool.false_and]
/-- a draft of the class that stands for what is read -/
def PsR (q : PS) (cs : CoS) : Prop := match q with
  | (du, li, hk, pt, an, kd, hd, nh, np) => (2 ≤ du → cs.2.2.2.2.2.1 = nI li) ∧ cs.2.2.2.2.2.2.1 = nI nh ∧ cs.2.2.2.2.2.2.2 = nI np ∧ (∀ j, j < nh → cs.1 j = nI (hk j)) ∧ (∀ i, i < np → cs.2.1 i = nI (pt i) ∧ cs.2.2.1 i = nI (an i) ∧ cs.2.2.2.1 i = nI (kd i) ∧ cs.2.2.2.2.1 i = nI (hd i)) ∧ (5 ≤ du → cs.2.1 np = nI (pt np)) ∧ (6 ≤ du → cs.2.2.1 np = nI (an np)) ∧ (7 ≤ du → cs.2.2.2.1 np = nI (kd np))
theorem upR {f : FI} {g : Nat → Nat} {k v : Nat} (h : ∀ j, j < k → f j = nI (g j)) : ∀ j, j < k + 1 → upd f k (nI v) j = nI (updN g k v j) := by
  intro j hj
  by_cases e : j = k
  · subst e; rw [pk_us, updN_s]
  · rw [pk_un e, updN_n e]; exact h j (by omega)
section PARSE
variable {X : Nat × (Nat → Int32)} {d : Nat} {t : AH} {tx : TxS} {ca cb : CoS} {kt kd : Nat} {sd : Int64} {nw tr s0 s1 : StS} {ac : AcS} {tu : TuS} {gi : GiS} {mo : MoS} {dn ch : FI} {h : AH}
theorem c_Co_takeFig1 {ka i L N : Nat} {x : Int32} {f : FI} (h0 : h[ka]? = some (.inl (.int, N, .inl f))) (hi : i < N) (hN : N < 100) (hx : inB x L = true) : Call X (d + 1) 0 0 M_Co_takeFigure [.ref (ka + 1), .int (nI i), .int x, .int (nI L)] h (Ret (.int (bI true)) (h.set ka (.inl (.int, N, .inl (upd f i x))))) := by
  show Run X (d + 1) 0 0 M_Co_takeFigure 0 [some (.ref (ka + 1)), some (.int (nI i)), some (.int x), some (.int (nI L))] [] h _
  refine Run.iload_n d_Co_takeFigure_0 rfl ?_
  refine Run.iload_n d_Co_takeFigure_1 rfl ?_
  refine Run.S2r d_Co_takeFigure_2 lk_Co_31 cm_PM_isBelow st_PM_isBelow (Nat.le_of_ble_eq_true rfl) (Nat.le_of_ble_eq_true rfl) (c_PM_isBelow) ?_
  first | refine Run.if_eq_b d_Co_takeFigure_5 (fun c5 => ?_) (fun c5 => ?_) | refine Run.if_eq_n d_Co_takeFigure_5 (by omega) (fun c5 => ?_) (fun c5 => ?_) | refine Run.if_eq d_Co_takeFigure_5 (fun c5 => ?_) (fun c5 => ?_)
  · rw [show inB x L = false from c5] at hx; cases hx
  · refine Run.iload_n d_Co_takeFigure_8 rfl ?_
    refine Run.aload_n d_Co_takeFigure_9 rfl ?_
    refine Run.alen (v := nI N) d_Co_takeFigure_10 h0 rfl ?_
    refine Run.S2r d_Co_takeFigure_11 lk_Co_31 cm_PM_isBelow st_PM_isBelow (Nat.le_of_ble_eq_true rfl) (Nat.le_of_ble_eq_true rfl) (c_PM_isBelow) ?_
    first | refine Run.if_ne_b d_Co_takeFigure_14 (fun c14 => ?_) (fun c14 => ?_) | refine Run.if_ne_n d_Co_takeFigure_14 (by omega) (fun c14 => ?_) (fun c14 => ?_) | refine Run.if_ne d_Co_takeFigure_14 (fun c14 => ?_) (fun c14 => ?_)
    · refine Run.aload_n d_Co_takeFigure_19 rfl ?_
      refine Run.iload_n d_Co_takeFigure_20 rfl ?_
      refine Run.iload_n d_Co_takeFigure_21 rfl ?_
      refine Run.iast_n d_Co_takeFigure_22 (by first | rfl | assumption) (by omega) (by omega) ?_
      refine Run.iconst (v := nI 1) d_Co_takeFigure_23 ic_1 ?_
      refine Run.iret d_Co_takeFigure_24 rfl (by first | exact bI_nar _ | decide +kernel) ?_
      exact ⟨rfl, rfl⟩
    · exact (inB_f hi (by omega) c14).elim
theorem c_Co_takeFig0 {ka i L N : Nat} {x : Int32} {f : FI} (h0 : h[ka]? = some (.inl (.int, N, .inl f))) (hi : i < N) (hN : N < 100) (hx : inB x L = false) : Call X (d + 1) 0 0 M_Co_takeFigure [.ref (ka + 1), .int (nI i), .int x, .int (nI L)] h (Ret (.int (bI false)) h) := by
  show Run X (d + 1) 0 0 M_Co_takeFigure 0 [some (.ref (ka + 1)), some (.int (nI i)), some (.int x), some (.int (nI L))] [] h _
  refine Run.iload_n d_Co_takeFigure_0 rfl ?_
  refine Run.iload_n d_Co_takeFigure_1 rfl ?_
  refine Run.S2r d_Co_takeFigure_2 lk_Co_31 cm_PM_isBelow st_PM_isBelow (Nat.le_of_ble_eq_true rfl) (Nat.le_of_ble_eq_true rfl) (c_PM_isBelow) ?_
  first | refine Run.if_eq_b d_Co_takeFigure_5 (fun c5 => ?_) (fun c5 => ?_) | refine Run.if_eq_n d_Co_takeFigure_5 (by omega) (fun c5 => ?_) (fun c5 => ?_) | refine Run.if_eq d_Co_takeFigure_5 (fun c5 => ?_) (fun c5 => ?_)
  · refine Run.iconst (v := nI 0) d_Co_takeFigure_17 ic_0 ?_
    refine Run.iret d_Co_takeFigure_18 rfl (by first | exact bI_nar _ | decide +kernel) ?_
    exact ⟨rfl, rfl⟩
  · rw [show inB x L = true from c5] at hx; cases hx
theorem q_endHA {fhk fpt fan fkd fhd : FI} {cl cnp : Int32} {nh : Nat} : Call X d 0 0 M_Co_endHolder [.ref 4] (hX tx (fhk, fpt, fan, fkd, fhd, cl, nI nh, cnp) cb 9 3 sd nw tr ac tu gi mo dn ch s0 s1 ++ t) (Ret (.int (nI 2)) (hX tx (fhk, fpt, fan, fkd, fhd, cl, nI (nh + 1), cnp) cb 9 3 sd nw tr ac tu gi mo dn ch s0 s1 ++ t)) := by
  show Run X d 0 0 M_Co_endHolder 0 [some (.ref 4)] [] _ _
  refine Run.aload_n d_Co_endHolder_0 rfl ?_
  refine Run.dup d_Co_endHolder_1 rfl ?_
  refine Run.getf d_Co_endHolder_2 fl_Co_27 (by first | rfl | assumption) (by rfl) ?_
  refine Run.iconst (v := nI 1) d_Co_endHolder_5 ic_1 ?_
  first | refine Run.iadd_n d_Co_endHolder_6 ?_ | refine Run.iadd d_Co_endHolder_6 ?_
  refine Run.putf d_Co_endHolder_7 fl_Co_27 (fun _ => rfl) (fun _ => rfl) (by first | rfl | assumption) (by exact Nat.le_of_ble_eq_true rfl) ?_
  refine Run.iconst (v := nI 2) d_Co_endHolder_10 ic_2 ?_
  refine Run.iret d_Co_endHolder_11 rfl rfl ?_
  exact ⟨rfl, rfl⟩
theorem q_endPA {fhk fpt fan fkd fhd : FI} {cl cnh : Int32} {np : Nat} : Call X d 0 0 M_Co_endPiece [.ref 4] (hX tx (fhk, fpt, fan, fkd, fhd, cl, cnh, nI np) cb 9 3 sd nw tr ac tu gi mo dn ch s0 s1 ++ t) (Ret (.int (nI 2)) (hX tx (fhk, fpt, fan, fkd, fhd, cl, cnh, nI (np + 1)) cb 9 3 sd nw tr ac tu gi mo dn ch s0 s1 ++ t)) := by
  show Run X d 0 0 M_Co_endPiece 0 [some (.ref 4)] [] _ _
  refine Run.aload_n d_Co_endPiece_0 rfl ?_
  refine Run.dup d_Co_endPiece_1 rfl ?_
  refine Run.getf d_Co_endPiece_2 fl_Co_35 (by first | rfl | assumption) (by rfl) ?_
  refine Run.iconst (v := nI 1) d_Co_endPiece_5 ic_1 ?_
  first | refine Run.iadd_n d_Co_endPiece_6 ?_ | refine Run.iadd d_Co_endPiece_6 ?_
  refine Run.putf d_Co_endPiece_7 fl_Co_35 (fun _ => rfl) (fun _ => rfl) (by first | rfl | assumption) (by exact Nat.le_of_ble_eq_true rfl) ?_
  refine Run.iconst (v := nI 2) d_Co_endPiece_10 ic_2 ?_
  refine Run.iret d_Co_endPiece_11 rfl rfl ?_
  exact ⟨rfl, rfl⟩
theorem q_clearA {fhk fpt fan fkd fhd : FI} {cl cnh cnp : Int32} : Call X d 0 0 M_Co_clear [.ref 4] (hX tx (fhk, fpt, fan, fkd, fhd, cl, cnh, cnp) cb 9 3 sd nw tr ac tu gi mo dn ch s0 s1 ++ t) (Rv (hX tx (fhk, fpt, fan, fkd, fhd, nI 0, nI 0, nI 0) cb 9 3 sd nw tr ac tu gi mo dn ch s0 s1 ++ t)) := by
  show Run X d 0 0 M_Co_clear 0 [some (.ref 4)] [] _ _
  refine Run.aload_n d_Co_clear_0 rfl ?_
  refine Run.iconst (v := nI 0) d_Co_clear_1 ic_0 ?_
  refine Run.putf d_Co_clear_2 fl_Co_49 (fun _ => rfl) (fun _ => rfl) (by first | rfl | assumption) (by exact Nat.le_of_ble_eq_true rfl) ?_
  refine Run.aload_n d_Co_clear_5 rfl ?_
  refine Run.iconst (v := nI 0) d_Co_clear_6 ic_0 ?_
  refine Run.putf d_Co_clear_7 fl_Co_27 (fun _ => rfl) (fun _ => rfl) (by first | rfl | assumption) (by exact Nat.le_of_ble_eq_true rfl) ?_
  refine Run.aload_n d_Co_clear_10 rfl ?_
  refine Run.iconst (v := nI 0) d_Co_clear_11 ic_0 ?_
  refine Run.putf d_Co_clear_12 fl_Co_35 (fun _ => rfl) (fun _ => rfl) (by first | rfl | assumption) (by exact Nat.le_of_ble_eq_true rfl) ?_
  refine Run.vret d_Co_clear_15 rfl ?_
  exact ⟨rfl, rfl⟩
theorem q_Co_thingA {cs : CoS} {b nh np : Nat} (hb : b < 256) (h1 : cs.2.2.2.2.2.2.1 = nI nh) (h2 : cs.2.2.2.2.2.2.2 = nI np) (hn1 : nh ≤ 4) (hn2 : np ≤ 6) : Call X d 0 0 M_Co_takeThing [.ref 4, .int (nI b)] (hX tx cs cb 9 3 sd nw tr ac tu gi mo dn ch s0 s1 ++ t) (Ret (.int (if b = 72 ∧ nh < 4 then nI 3 else if b = 67 ∧ 0 < nh ∧ np < 6 then nI 4 else -1)) (hX tx cs cb 9 3 sd nw tr ac tu gi mo dn ch s0 s1 ++ t)) := by
  show Run X d 0 0 M_Co_takeThing 0 [some (.ref 4), some (.int (nI b))] [] _ _
  refine Run.iload_n d_Co_takeThing_0 rfl ?_
  refine Run.bipush (v := nI 72) d_Co_takeThing_1 bp_72 ?_
  first | refine Run.icmp_ne_n d_Co_takeThing_3 (by omega) (by omega) (fun c3 => ?_) (fun c3 => ?_) | refine Run.icmp_ne d_Co_takeThing_3 (fun c3 => ?_) (fun c3 => ?_)
  · refine Run.iload_n d_Co_takeThing_16 rfl ?_
    refine Run.bipush (v := nI 67) d_Co_takeThing_17 bp_67 ?_
    first | refine Run.icmp_ne_n d_Co_takeThing_19 (by omega) (by omega) (fun c19 => ?_) (fun c19 => ?_) | refine Run.icmp_ne d_Co_takeThing_19 (fun c19 => ?_) (fun c19 => ?_)
    · refine Run.iconst (v := -1) d_Co_takeThing_40 ic_m1 ?_
      refine Run.iret d_Co_takeThing_41 rfl rfl ?_
      exact ret_i (by rw [if_neg (fun z => by omega), if_neg (fun z => by omega)])
    · refine Run.aload_n d_Co_takeThing_22 rfl ?_
      refine Run.getf d_Co_takeThing_23 fl_Co_27 (by first | rfl | assumption) (by rfl) ?_
      rw [h1]
      first | refine Run.if_le_n d_Co_takeThing_26 (by omega) (fun c26 => ?_) (fun c26 => ?_) | refine Run.if_le d_Co_takeThing_26 (fun c26 => ?_) (fun c26 => ?_)
      · refine Run.iconst (v := -1) d_Co_takeThing_40 ic_m1 ?_
        refine Run.iret d_Co_takeThing_41 rfl rfl ?_
        exact ret_i (by rw [if_neg (fun z => by omega), if_neg (fun z => by omega)])
      · refine Run.aload_n d_Co_takeThing_29 rfl ?_
        refine Run.getf d_Co_takeThing_30 fl_Co_35 (by first | rfl | assumption) (by rfl) ?_
        rw [h2]
        refine Run.bipush (v := nI 6) d_Co_takeThing_33 bp_6 ?_
        first | refine Run.icmp_ge_n d_Co_takeThing_35 (by omega) (by omega) (fun c35 => ?_) (fun c35 => ?_) | refine Run.icmp_ge d_Co_takeThing_35 (fun c35 => ?_) (fun c35 => ?_)
        · refine Run.iconst (v := -1) d_Co_takeThing_40 ic_m1 ?_
          refine Run.iret d_Co_takeThing_41 rfl rfl ?_
          exact ret_i (by rw [if_neg (fun z => by omega), if_neg (fun z => by omega)])
        · refine Run.iconst (v := nI 4) d_Co_takeThing_38 ic_4 ?_
          refine Run.iret d_Co_takeThing_39 rfl rfl ?_
          exact ret_i (by rw [if_neg (fun z => by omega), if_pos ⟨c19, c26, c35⟩])
  · refine Run.aload_n d_Co_takeThing_6 rfl ?_
    refine Run.getf d_Co_takeThing_7 fl_Co_27 (by first | rfl | assumption) (by rfl) ?_
    rw [h1]
    refine Run.iconst (v := nI 4) d_Co_takeThing_10 ic_4 ?_
    first | refine Run.icmp_ge_n d_Co_takeThing_11 (by omega) (by omega) (fun c11 => ?_) (fun c11 => ?_) | refine Run.icmp_ge d_Co_takeThing_11 (fun c11 => ?_) (fun c11 => ?_)
    · refine Run.iload_n d_Co_takeThing_16 rfl ?_
      refine Run.bipush (v := nI 67) d_Co_takeThing_17 bp_67 ?_
      first | refine Run.icmp_ne_n d_Co_takeThing_19 (by omega) (by omega) (fun c19 => ?_) (fun c19 => ?_) | refine Run.icmp_ne d_Co_takeThing_19 (fun c19 => ?_) (fun c19 => ?_)
      · refine Run.iconst (v := -1) d_Co_takeThing_40 ic_m1 ?_
        refine Run.iret d_Co_takeThing_41 rfl rfl ?_
        exact ret_i (by rw [if_neg (fun z => by omega), if_neg (fun z => by omega)])
      · refine Run.aload_n d_Co_takeThing_22 rfl ?_
        refine Run.getf d_Co_takeThing_23 fl_Co_27 (by first | rfl | assumption) (by rfl) ?_
        rw [h1]
        first | refine Run.if_le_n d_Co_takeThing_26 (by omega) (fun c26 => ?_) (fun c26 => ?_) | refine Run.if_le d_Co_takeThing_26 (fun c26 => ?_) (fun c26 => ?_)
        · refine Run.iconst (v := -1) d_Co_takeThing_40 ic_m1 ?_
          refine Run.iret d_Co_takeThing_41 rfl rfl ?_
          exact ret_i (by rw [if_neg (fun z => by omega), if_neg (fun z => by omega)])
        · refine Run.aload_n d_Co_takeThing_29 rfl ?_
          refine Run.getf d_Co_takeThing_30 fl_Co_35 (by first | rfl | assumption) (by rfl) ?_
          rw [h2]
          refine Run.bipush (v := nI 6) d_Co_takeThing_33 bp_6 ?_
          first | refine Run.icmp_ge_n d_Co_takeThing_35 (by omega) (by omega) (fun c35 => ?_) (fun c35 => ?_) | refine Run.icmp_ge d_Co_takeThing_35 (fun c35 => ?_) (fun c35 => ?_)
          · refine Run.iconst (v := -1) d_Co_takeThing_40 ic_m1 ?_
            refine Run.iret d_Co_takeThing_41 rfl rfl ?_
            exact ret_i (by rw [if_neg (fun z => by omega), if_neg (fun z => by omega)])
          · refine Run.iconst (v := nI 4) d_Co_takeThing_38 ic_4 ?_
            refine Run.iret d_Co_takeThing_39 rfl rfl ?_
            exact ret_i (by rw [if_neg (fun z => by omega), if_pos ⟨c19, c26, c35⟩])
    · refine Run.iconst (v := nI 3) d_Co_takeThing_14 ic_3 ?_
      refine Run.iret d_Co_takeThing_15 rfl rfl ?_
      exact ret_i (by rw [if_pos ⟨c3, c11⟩])
theorem q_Co_takeA {q : PS} {cs : CoS} {b : Nat} (hb : b < 256) (hq : psOK q) (hr : PsR q cs) : Call X (d + 2) 0 0 M_Co_take [.ref 4, .int (nI q.1), .int (nI b)] (hX tx cs cb 9 3 sd nw tr ac tu gi mo dn ch s0 s1 ++ t) (fun r h2 => (psS q b = none ∧ r = some (.int (-1)) ∧ ∃ cs2, h2 = hX tx cs2 cb 9 3 sd nw tr ac tu gi mo dn ch s0 s1 ++ t) ∨ ∃ q2 cs2, psS q b = some q2 ∧ PsR q2 cs2 ∧ r = some (.int (nI q2.1)) ∧ h2 = hX tx cs2 cb 9 3 sd nw tr ac tu gi mo dn ch s0 s1 ++ t) := by
  obtain ⟨du, li, hk, pt, an, kd, hd, nh, np⟩ := q
  obtain ⟨fhk, fpt, fan, fkd, fhd, cl, cnh, cnp⟩ := cs
  obtain ⟨a1, a2, a3, a4, a5, a6, a7, a8, a9, a10, a11⟩ := hq
  obtain ⟨r1, r2, r3, r4, r5, r6, r7, r8⟩ := hr
  have r2 : cnh = nI nh := r2
  have r3 : cnp = nI np := r3
  subst r2
  subst r3
  show Run X (d + 2) 0 0 M_Co_take 0 [some (.ref 4), some (.int (nI du)), some (.int (nI b)), none] [] _ _
  generalize hfig : nI b - nI 48 = fg
  have hin : ∀ L, L ≤ 100 → inB fg L = decide (48 ≤ b ∧ b < 48 + L) := fun L hL => by rw [← hfig]; exact fg_in hb hL
  have hval : 48 ≤ b → fg = nI (b - 48) := fun z => by rw [← hfig, pk_sub z]
  rcases (show du = 0 ∨ du = 1 ∨ du = 2 ∨ du = 3 ∨ du = 4 ∨ du = 5 ∨ du = 6 ∨ du = 7 by omega) with rfl | rfl | rfl | rfl | rfl | rfl | rfl | rfl
  · have e0 : psS (0, li, hk, pt, an, kd, hd, nh, np) b = if b = 80 then some (1, li, hk, pt, an, kd, hd, nh, np) else none := rfl
    refine Run.iload_n d_Co_take_0 rfl ?_
    refine Run.bipush (v := nI 48) d_Co_take_1 bp_48 ?_
    refine Run.isub d_Co_take_3 ?_
    rw [hfig]
    refine Run.istore_n d_Co_take_4 rfl rfl ?_
    show Run _ _ _ _ _ _ [_, _, _, _] _ _ _
    refine Run.iload_n d_Co_take_5 rfl ?_
    refine Run.tswIn (off := 46) (tgt := 52) d_Co_take_6 (by decide +kernel) (by decide +kernel) (by decide +kernel) rfl ?_
    refine Run.iload_n d_Co_take_52 rfl ?_
    refine Run.bipush (v := nI 80) d_Co_take_53 bp_80 ?_
    first | refine Run.icmp_ne_n d_Co_take_55 (by omega) (by omega) (fun c55 => ?_) (fun c55 => ?_) | refine Run.icmp_ne d_Co_take_55 (fun c55 => ?_) (fun c55 => ?_)
    · refine Run.iconst (v := -1) d_Co_take_62 ic_m1 ?_
      refine Run.iret d_Co_take_63 rfl rfl ?_
      first
      | (have q0 : ¬ b = 80 := c55; exact Or.inl ⟨by rw [e0, if_neg q0], rfl, _, rfl⟩)
      | (have q0 : b = 80 := c55; exact Or.inr ⟨(1, li, hk, pt, an, kd, hd, nh, np), (fhk, fpt, fan, fkd, fhd, cl, nI nh, nI np), by rw [e0, if_pos q0], ⟨fun z => by omega, rfl, rfl, r4, r5, fun z => by omega, fun z => by omega, fun z => by omega⟩, rfl, rfl⟩)
    · refine Run.iconst (v := nI 1) d_Co_take_58 ic_1 ?_
      refine Run.goto d_Co_take_59 ?_
      refine Run.iret d_Co_take_63 rfl rfl ?_
      first
      | (have q0 : ¬ b = 80 := c55; exact Or.inl ⟨by rw [e0, if_neg q0], rfl, _, rfl⟩)
      | (have q0 : b = 80 := c55; exact Or.inr ⟨(1, li, hk, pt, an, kd, hd, nh, np), (fhk, fpt, fan, fkd, fhd, cl, nI nh, nI np), by rw [e0, if_pos q0], ⟨fun z => by omega, rfl, rfl, r4, r5, fun z => by omega, fun z => by omega, fun z => by omega⟩, rfl, rfl⟩)
  · have e0 : psS (1, li, hk, pt, an, kd, hd, nh, np) b = if 48 ≤ b ∧ b < 48 + 8 then some (2, b - 48, hk, pt, an, kd, hd, nh, np) else none := rfl
    refine Run.iload_n d_Co_take_0 rfl ?_
    refine Run.bipush (v := nI 48) d_Co_take_1 bp_48 ?_
    refine Run.isub d_Co_take_3 ?_
    rw [hfig]
    refine Run.istore_n d_Co_take_4 rfl rfl ?_
    show Run _ _ _ _ _ _ [_, _, _, _] _ _ _
    refine Run.iload_n d_Co_take_5 rfl ?_
    refine Run.tswIn (off := 58) (tgt := 64) d_Co_take_6 (by decide +kernel) (by decide +kernel) (by decide +kernel) rfl ?_
    refine Run.aload_n d_Co_take_64 rfl ?_
    refine Run.iload_n d_Co_take_65 rfl ?_
    refine Run.putf d_Co_take_66 fl_Co_49 (fun _ => rfl) (fun _ => rfl) (by first | rfl | assumption) (by exact Nat.le_of_ble_eq_true rfl) ?_
    refine run_hp (show _ = hX tx (fhk, fpt, fan, fkd, fhd, fg, nI nh, nI np) cb 9 3 sd nw tr ac tu gi mo dn ch s0 s1 ++ t from rfl) ?_
    refine Run.iload_n d_Co_take_69 rfl ?_
    refine Run.bipush (v := nI 8) d_Co_take_70 bp_8 ?_
    refine Run.S2r d_Co_take_72 lk_Co_31 cm_PM_isBelow st_PM_isBelow (Nat.le_of_ble_eq_true rfl) (Nat.le_of_ble_eq_true rfl) (c_PM_isBelow) ?_
    rw [show (decide (0 ≤ fg) && decide (fg < nI 8)) = inB fg 8 from rfl, hin 8 (by omega)]
    first | refine Run.if_eq_b d_Co_take_75 (fun c75 => ?_) (fun c75 => ?_) | refine Run.if_eq_n d_Co_take_75 (by omega) (fun c75 => ?_) (fun c75 => ?_) | refine Run.if_eq d_Co_take_75 (fun c75 => ?_) (fun c75 => ?_)
    · refine Run.iconst (v := -1) d_Co_take_82 ic_m1 ?_
      refine Run.iret d_Co_take_83 rfl rfl ?_
      first
      | exact Or.inl ⟨by rw [e0, if_neg (of_decide_eq_false c75)], rfl, _, rfl⟩
      | exact Or.inr ⟨(2, b - 48, hk, pt, an, kd, hd, nh, np), (fhk, fpt, fan, fkd, fhd, fg, nI nh, nI np), by rw [e0, if_pos (of_decide_eq_true c75)], ⟨fun z => hval (of_decide_eq_true c75).1, rfl, rfl, r4, r5, fun z => by omega, fun z => by omega, fun z => by omega⟩, rfl, rfl⟩
    · refine Run.iconst (v := nI 2) d_Co_take_78 ic_2 ?_
      refine Run.goto d_Co_take_79 ?_
      refine Run.iret d_Co_take_83 rfl rfl ?_
      first
      | exact Or.inl ⟨by rw [e0, if_neg (of_decide_eq_false c75)], rfl, _, rfl⟩
      | exact Or.inr ⟨(2, b - 48, hk, pt, an, kd, hd, nh, np), (fhk, fpt, fan, fkd, fhd, fg, nI nh, nI np), by rw [e0, if_pos (of_decide_eq_true c75)], ⟨fun z => hval (of_decide_eq_true c75).1, rfl, rfl, r4, r5, fun z => by omega, fun z => by omega, fun z => by omega⟩, rfl, rfl⟩
  · have e0 : psS (2, li, hk, pt, an, kd, hd, nh, np) b = if b = 72 ∧ nh < 4 then some (3, li, hk, pt, an, kd, hd, nh, np) else if b = 67 ∧ 0 < nh ∧ np < 6 then some (4, li, hk, pt, an, kd, hd, nh, np) else none := rfl
    refine Run.iload_n d_Co_take_0 rfl ?_
    refine Run.bipush (v := nI 48) d_Co_take_1 bp_48 ?_
    refine Run.isub d_Co_take_3 ?_
    rw [hfig]
    refine Run.istore_n d_Co_take_4 rfl rfl ?_
    show Run _ _ _ _ _ _ [_, _, _, _] _ _ _
    refine Run.iload_n d_Co_take_5 rfl ?_
    refine Run.tswIn (off := 78) (tgt := 84) d_Co_take_6 (by decide +kernel) (by decide +kernel) (by decide +kernel) rfl ?_
    refine Run.aload_n d_Co_take_84 rfl ?_
    refine Run.iload_n d_Co_take_85 rfl ?_
    refine Run.V1r d_Co_take_86 lk_Co_52 cm_Co_takeThing iv_Co_takeThing rfl (by first | rfl | assumption) (Nat.le_of_ble_eq_true rfl) (Nat.le_of_ble_eq_true rfl) (q_Co_thingA (cs := (fhk, fpt, fan, fkd, fhd, cl, nI nh, nI np)) hb rfl rfl a2 a3) ?_
    refine Run.iret d_Co_take_89 rfl rfl ?_
    by_cases h1 : b = 72 ∧ nh < 4
    · rw [if_pos h1] at e0 ⊢
      exact Or.inr ⟨(3, li, hk, pt, an, kd, hd, nh, np), (fhk, fpt, fan, fkd, fhd, cl, nI nh, nI np), e0, ⟨fun z => r1 (by omega), rfl, rfl, r4, r5, fun z => by omega, fun z => by omega, fun z => by omega⟩, rfl, rfl⟩
    · rw [if_neg h1] at e0 ⊢
      by_cases h2 : b = 67 ∧ 0 < nh ∧ np < 6
      · rw [if_pos h2] at e0 ⊢
        exact Or.inr ⟨(4, li, hk, pt, an, kd, hd, nh, np), (fhk, fpt, fan, fkd, fhd, cl, nI nh, nI np), e0, ⟨fun z => r1 (by omega), rfl, rfl, r4, r5, fun z => by omega, fun z => by omega, fun z => by omega⟩, rfl, rfl⟩
      · rw [if_neg h2] at e0 ⊢
        exact Or.inl ⟨e0, rfl, _, rfl⟩
  · have e0 : psS (3, li, hk, pt, an, kd, hd, nh, np) b = if 48 ≤ b ∧ b < 48 + 4 then some (2, li, updN hk nh (b - 48), pt, an, kd, hd, nh + 1, np) else none := rfl
    have hnh := a5 rfl
    refine Run.iload_n d_Co_take_0 rfl ?_
    refine Run.bipush (v := nI 48) d_Co_take_1 bp_48 ?_
    refine Run.isub d_Co_take_3 ?_
    rw [hfig]
    refine Run.istore_n d_Co_take_4 rfl rfl ?_
    show Run _ _ _ _ _ _ [_, _, _, _] _ _ _
    refine Run.iload_n d_Co_take_5 rfl ?_
    refine Run.tswIn (off := 84) (tgt := 90) d_Co_take_6 (by decide +kernel) (by decide +kernel) (by decide +kernel) rfl ?_
    by_cases hv : 48 ≤ b ∧ b < 48 + 4
    · have hi1 : inB fg 4 = true := by rw [hin 4 (by omega)]; exact decide_eq_true hv
      have hfv := hval hv.1
      refine Run.aload_n d_Co_take_90 rfl ?_
      refine Run.getf d_Co_take_91 fl_Co_9 (by first | rfl | assumption) (by rfl) ?_
      refine Run.aload_n d_Co_take_94 rfl ?_
      refine Run.getf d_Co_take_95 fl_Co_27 (by first | rfl | assumption) (by rfl) ?_
      refine Run.iload_n d_Co_take_98 rfl ?_
      refine Run.iconst (v := nI 4) d_Co_take_99 ic_4 ?_
      refine Run.S4r d_Co_take_100 lk_Co_56 cm_Co_takeFigure st_Co_takeFigure (Nat.le_of_ble_eq_true rfl) (Nat.le_of_ble_eq_true rfl) (c_Co_takeFig1 (ka := 4) (f := fhk) rfl hnh (by omega) hi1) ?_
      refine run_hp (show _ = hX tx (upd fhk nh fg, fpt, fan, fkd, fhd, cl, nI nh, nI np) cb 9 3 sd nw tr ac tu gi mo dn ch s0 s1 ++ t from rfl) ?_
      first | refine Run.if_eq_b d_Co_take_103 (fun c103 => ?_) (fun c103 => ?_) | refine Run.if_eq_n d_Co_take_103 (by omega) (fun c103 => ?_) (fun c103 => ?_) | refine Run.if_eq d_Co_take_103 (fun c103 => ?_) (fun c103 => ?_)
      · cases c103
      · refine Run.aload_n d_Co_take_106 rfl ?_
        refine Run.V0r d_Co_take_107 lk_Co_60 cm_Co_endHolder iv_Co_endHolder rfl (by first | rfl | assumption) (Nat.le_of_ble_eq_true rfl) (Nat.le_of_ble_eq_true rfl) (q_endHA) ?_
        refine Run.goto d_Co_take_110 ?_
        refine Run.iret d_Co_take_114 rfl rfl ?_
        refine Or.inr ⟨(2, li, updN hk nh (b - 48), pt, an, kd, hd, nh + 1, np), (upd fhk nh fg, fpt, fan, fkd, fhd, cl, nI (nh + 1), nI np), by rw [e0, if_pos hv], ⟨fun z => r1 (by omega), rfl, rfl, ?_, r5, fun z => by omega, fun z => by omega, fun z => by omega⟩, rfl, rfl⟩
        rw [hfv]
        exact upR r4
    · have hi1 : inB fg 4 = false := by rw [hin 4 (by omega)]; exact decide_eq_false hv
      refine Run.aload_n d_Co_take_90 rfl ?_
      refine Run.getf d_Co_take_91 fl_Co_9 (by first | rfl | assumption) (by rfl) ?_
      refine Run.aload_n d_Co_take_94 rfl ?_
      refine Run.getf d_Co_take_95 fl_Co_27 (by first | rfl | assumption) (by rfl) ?_
      refine Run.iload_n d_Co_take_98 rfl ?_
      refine Run.iconst (v := nI 4) d_Co_take_99 ic_4 ?_
      refine Run.S4r d_Co_take_100 lk_Co_56 cm_Co_takeFigure st_Co_takeFigure (Nat.le_of_ble_eq_true rfl) (Nat.le_of_ble_eq_true rfl) (c_Co_takeFig0 (ka := 4) (f := fhk) rfl hnh (by omega) hi1) ?_
      first | refine Run.if_eq_b d_Co_take_103 (fun c103 => ?_) (fun c103 => ?_) | refine Run.if_eq_n d_Co_take_103 (by omega) (fun c103 => ?_) (fun c103 => ?_) | refine Run.if_eq d_Co_take_103 (fun c103 => ?_) (fun c103 => ?_)
      · refine Run.iconst (v := -1) d_Co_take_113 ic_m1 ?_
        refine Run.iret d_Co_take_114 rfl rfl ?_
        exact Or.inl ⟨by rw [e0, if_neg hv], rfl, _, rfl⟩
      · cases c103
  · have e0 : psS (4, li, hk, pt, an, kd, hd, nh, np) b = if 48 ≤ b ∧ b < 48 + 5 then some (5, li, hk, updN pt np (b - 48), an, kd, hd, nh, np) else none := rfl
    have hnp := (a6 (by omega)).1
    refine Run.iload_n d_Co_take_0 rfl ?_
    refine Run.bipush (v := nI 48) d_Co_take_1 bp_48 ?_
    refine Run.isub d_Co_take_3 ?_
    rw [hfig]
    refine Run.istore_n d_Co_take_4 rfl rfl ?_
    show Run _ _ _ _ _ _ [_, _, _, _] _ _ _
    refine Run.iload_n d_Co_take_5 rfl ?_
    refine Run.tswIn (off := 109) (tgt := 115) d_Co_take_6 (by decide +kernel) (by decide +kernel) (by decide +kernel) rfl ?_
    by_cases hv : 48 ≤ b ∧ b < 48 + 5
    · have hi1 : inB fg 5 = true := by rw [hin 5 (by omega)]; exact decide_eq_true hv
      have hfv := hval hv.1
      refine Run.aload_n d_Co_take_115 rfl ?_
      refine Run.getf d_Co_take_116 fl_Co_15 (by first | rfl | assumption) (by rfl) ?_
      refine Run.aload_n d_Co_take_119 rfl ?_
      refine Run.getf d_Co_take_120 fl_Co_35 (by first | rfl | assumption) (by rfl) ?_
      refine Run.iload_n d_Co_take_123 rfl ?_
      refine Run.iconst (v := nI 5) d_Co_take_124 ic_5 ?_
      refine Run.S4r d_Co_take_125 lk_Co_56 cm_Co_takeFigure st_Co_takeFigure (Nat.le_of_ble_eq_true rfl) (Nat.le_of_ble_eq_true rfl) (c_Co_takeFig1 (ka := 5) (f := fpt) rfl hnp (by omega) hi1) ?_
      first | refine Run.if_eq_b d_Co_take_128 (fun c128 => ?_) (fun c128 => ?_) | refine Run.if_eq_n d_Co_take_128 (by omega) (fun c128 => ?_) (fun c128 => ?_) | refine Run.if_eq d_Co_take_128 (fun c128 => ?_) (fun c128 => ?_)
      · cases c128
      · refine Run.iconst (v := nI 5) d_Co_take_131 ic_5 ?_
        refine Run.goto d_Co_take_132 ?_
        refine Run.iret d_Co_take_136 rfl rfl ?_
        exact Or.inr ⟨(5, li, hk, updN pt np (b - 48), an, kd, hd, nh, np), (fhk, upd fpt np fg, fan, fkd, fhd, cl, nI nh, nI np), by rw [e0, if_pos hv], ⟨fun z => r1 (by omega), rfl, rfl, r4, fun i hi => by simp only [pk_un (show i ≠ np by omega), updN_n (show i ≠ np by omega)]; exact r5 i hi, fun z => by show upd _ np fg np = nI (updN _ np _ np); rw [pk_us, updN_s]; exact hfv, fun z => by omega, fun z => by omega⟩, rfl, rfl⟩
    · have hi1 : inB fg 5 = false := by rw [hin 5 (by omega)]; exact decide_eq_false hv
      refine Run.aload_n d_Co_take_115 rfl ?_
      refine Run.getf d_Co_take_116 fl_Co_15 (by first | rfl | assumption) (by rfl) ?_
      refine Run.aload_n d_Co_take_119 rfl ?_
      refine Run.getf d_Co_take_120 fl_Co_35 (by first | rfl | assumption) (by rfl) ?_
      refine Run.iload_n d_Co_take_123 rfl ?_
      refine Run.iconst (v := nI 5) d_Co_take_124 ic_5 ?_
      refine Run.S4r d_Co_take_125 lk_Co_56 cm_Co_takeFigure st_Co_takeFigure (Nat.le_of_ble_eq_true rfl) (Nat.le_of_ble_eq_true rfl) (c_Co_takeFig0 (ka := 5) (f := fpt) rfl hnp (by omega) hi1) ?_
      first | refine Run.if_eq_b d_Co_take_128 (fun c128 => ?_) (fun c128 => ?_) | refine Run.if_eq_n d_Co_take_128 (by omega) (fun c128 => ?_) (fun c128 => ?_) | refine Run.if_eq d_Co_take_128 (fun c128 => ?_) (fun c128 => ?_)
      · refine Run.iconst (v := -1) d_Co_take_135 ic_m1 ?_
        refine Run.iret d_Co_take_136 rfl rfl ?_
        exact Or.inl ⟨by rw [e0, if_neg hv], rfl, _, rfl⟩
      · cases c128
  · have e0 : psS (5, li, hk, pt, an, kd, hd, nh, np) b = if 48 ≤ b ∧ b < 48 + 8 then some (6, li, hk, pt, updN an np (b - 48), kd, hd, nh, np) else none := rfl
    have hnp := (a6 (by omega)).1
    refine Run.iload_n d_Co_take_0 rfl ?_
    refine Run.bipush (v := nI 48) d_Co_take_1 bp_48 ?_
    refine Run.isub d_Co_take_3 ?_
    rw [hfig]
    refine Run.istore_n d_Co_take_4 rfl rfl ?_
    show Run _ _ _ _ _ _ [_, _, _, _] _ _ _
    refine Run.iload_n d_Co_take_5 rfl ?_
    refine Run.tswIn (off := 131) (tgt := 137) d_Co_take_6 (by decide +kernel) (by decide +kernel) (by decide +kernel) rfl ?_
    by_cases hv : 48 ≤ b ∧ b < 48 + 8
    · have hi1 : inB fg 8 = true := by rw [hin 8 (by omega)]; exact decide_eq_true hv
      have hfv := hval hv.1
      refine Run.aload_n d_Co_take_137 rfl ?_
      refine Run.getf d_Co_take_138 fl_Co_18 (by first | rfl | assumption) (by rfl) ?_
      refine Run.aload_n d_Co_take_141 rfl ?_
      refine Run.getf d_Co_take_142 fl_Co_35 (by first | rfl | assumption) (by rfl) ?_
      refine Run.iload_n d_Co_take_145 rfl ?_
      refine Run.bipush (v := nI 8) d_Co_take_146 bp_8 ?_
      refine Run.S4r d_Co_take_148 lk_Co_56 cm_Co_takeFigure st_Co_takeFigure (Nat.le_of_ble_eq_true rfl) (Nat.le_of_ble_eq_true rfl) (c_Co_takeFig1 (ka := 6) (f := fan) rfl hnp (by omega) hi1) ?_
      first | refine Run.if_eq_b d_Co_take_151 (fun c151 => ?_) (fun c151 => ?_) | refine Run.if_eq_n d_Co_take_151 (by omega) (fun c151 => ?_) (fun c151 => ?_) | refine Run.if_eq d_Co_take_151 (fun c151 => ?_) (fun c151 => ?_)
      · cases c151
      · refine Run.bipush (v := nI 6) d_Co_take_154 bp_6 ?_
        refine Run.goto d_Co_take_156 ?_
        refine Run.iret d_Co_take_160 rfl rfl ?_
        exact Or.inr ⟨(6, li, hk, pt, updN an np (b - 48), kd, hd, nh, np), (fhk, fpt, upd fan np fg, fkd, fhd, cl, nI nh, nI np), by rw [e0, if_pos hv], ⟨fun z => r1 (by omega), rfl, rfl, r4, fun i hi => by simp only [pk_un (show i ≠ np by omega), updN_n (show i ≠ np by omega)]; exact r5 i hi, fun z => r6 (by omega), fun z => by show upd _ np fg np = nI (updN _ np _ np); rw [pk_us, updN_s]; exact hfv, fun z => by omega⟩, rfl, rfl⟩
    · have hi1 : inB fg 8 = false := by rw [hin 8 (by omega)]; exact decide_eq_false hv
      refine Run.aload_n d_Co_take_137 rfl ?_
      refine Run.getf d_Co_take_138 fl_Co_18 (by first | rfl | assumption) (by rfl) ?_
      refine Run.aload_n d_Co_take_141 rfl ?_
      refine Run.getf d_Co_take_142 fl_Co_35 (by first | rfl | assumption) (by rfl) ?_
      refine Run.iload_n d_Co_take_145 rfl ?_
      refine Run.bipush (v := nI 8) d_Co_take_146 bp_8 ?_
      refine Run.S4r d_Co_take_148 lk_Co_56 cm_Co_takeFigure st_Co_takeFigure (Nat.le_of_ble_eq_true rfl) (Nat.le_of_ble_eq_true rfl) (c_Co_takeFig0 (ka := 6) (f := fan) rfl hnp (by omega) hi1) ?_
      first | refine Run.if_eq_b d_Co_take_151 (fun c151 => ?_) (fun c151 => ?_) | refine Run.if_eq_n d_Co_take_151 (by omega) (fun c151 => ?_) (fun c151 => ?_) | refine Run.if_eq d_Co_take_151 (fun c151 => ?_) (fun c151 => ?_)
      · refine Run.iconst (v := -1) d_Co_take_159 ic_m1 ?_
        refine Run.iret d_Co_take_160 rfl rfl ?_
        exact Or.inl ⟨by rw [e0, if_neg hv], rfl, _, rfl⟩
      · cases c151
  · have e0 : psS (6, li, hk, pt, an, kd, hd, nh, np) b = if 48 ≤ b ∧ b < 48 + 4 then some (7, li, hk, pt, an, updN kd np (b - 48), hd, nh, np) else none := rfl
    have hnp := (a6 (by omega)).1
    refine Run.iload_n d_Co_take_0 rfl ?_
    refine Run.bipush (v := nI 48) d_Co_take_1 bp_48 ?_
    refine Run.isub d_Co_take_3 ?_
    rw [hfig]
    refine Run.istore_n d_Co_take_4 rfl rfl ?_
    show Run _ _ _ _ _ _ [_, _, _, _] _ _ _
    refine Run.iload_n d_Co_take_5 rfl ?_
    refine Run.tswIn (off := 155) (tgt := 161) d_Co_take_6 (by decide +kernel) (by decide +kernel) (by decide +kernel) rfl ?_
    by_cases hv : 48 ≤ b ∧ b < 48 + 4
    · have hi1 : inB fg 4 = true := by rw [hin 4 (by omega)]; exact decide_eq_true hv
      have hfv := hval hv.1
      refine Run.aload_n d_Co_take_161 rfl ?_
      refine Run.getf d_Co_take_162 fl_Co_21 (by first | rfl | assumption) (by rfl) ?_
      refine Run.aload_n d_Co_take_165 rfl ?_
      refine Run.getf d_Co_take_166 fl_Co_35 (by first | rfl | assumption) (by rfl) ?_
      refine Run.iload_n d_Co_take_169 rfl ?_
      refine Run.iconst (v := nI 4) d_Co_take_170 ic_4 ?_
      refine Run.S4r d_Co_take_171 lk_Co_56 cm_Co_takeFigure st_Co_takeFigure (Nat.le_of_ble_eq_true rfl) (Nat.le_of_ble_eq_true rfl) (c_Co_takeFig1 (ka := 7) (f := fkd) rfl hnp (by omega) hi1) ?_
      first | refine Run.if_eq_b d_Co_take_174 (fun c174 => ?_) (fun c174 => ?_) | refine Run.if_eq_n d_Co_take_174 (by omega) (fun c174 => ?_) (fun c174 => ?_) | refine Run.if_eq d_Co_take_174 (fun c174 => ?_) (fun c174 => ?_)
      · cases c174
      · refine Run.bipush (v := nI 7) d_Co_take_177 bp_7 ?_
        refine Run.goto d_Co_take_179 ?_
        refine Run.iret d_Co_take_183 rfl rfl ?_
        exact Or.inr ⟨(7, li, hk, pt, an, updN kd np (b - 48), hd, nh, np), (fhk, fpt, fan, upd fkd np fg, fhd, cl, nI nh, nI np), by rw [e0, if_pos hv], ⟨fun z => r1 (by omega), rfl, rfl, r4, fun i hi => by simp only [pk_un (show i ≠ np by omega), updN_n (show i ≠ np by omega)]; exact r5 i hi, fun z => r6 (by omega), fun z => r7 (by omega), fun z => by show upd _ np fg np = nI (updN _ np _ np); rw [pk_us, updN_s]; exact hfv⟩, rfl, rfl⟩
    · have hi1 : inB fg 4 = false := by rw [hin 4 (by omega)]; exact decide_eq_false hv
      refine Run.aload_n d_Co_take_161 rfl ?_
      refine Run.getf d_Co_take_162 fl_Co_21 (by first | rfl | assumption) (by rfl) ?_
      refine Run.aload_n d_Co_take_165 rfl ?_
      refine Run.getf d_Co_take_166 fl_Co_35 (by first | rfl | assumption) (by rfl) ?_
      refine Run.iload_n d_Co_take_169 rfl ?_
      refine Run.iconst (v := nI 4) d_Co_take_170 ic_4 ?_
      refine Run.S4r d_Co_take_171 lk_Co_56 cm_Co_takeFigure st_Co_takeFigure (Nat.le_of_ble_eq_true rfl) (Nat.le_of_ble_eq_true rfl) (c_Co_takeFig0 (ka := 7) (f := fkd) rfl hnp (by omega) hi1) ?_
      first | refine Run.if_eq_b d_Co_take_174 (fun c174 => ?_) (fun c174 => ?_) | refine Run.if_eq_n d_Co_take_174 (by omega) (fun c174 => ?_) (fun c174 => ?_) | refine Run.if_eq d_Co_take_174 (fun c174 => ?_) (fun c174 => ?_)
      · refine Run.iconst (v := -1) d_Co_take_182 ic_m1 ?_
        refine Run.iret d_Co_take_183 rfl rfl ?_
        exact Or.inl ⟨by rw [e0, if_neg hv], rfl, _, rfl⟩
      · cases c174
  · have e0 : psS (7, li, hk, pt, an, kd, hd, nh, np) b = if 48 ≤ b ∧ b < 48 + nh then some (2, li, hk, pt, an, kd, updN hd np (b - 48), nh, np + 1) else none := rfl
    have hnp := (a6 (by omega)).1
    refine Run.iload_n d_Co_take_0 rfl ?_
    refine Run.bipush (v := nI 48) d_Co_take_1 bp_48 ?_
    refine Run.isub d_Co_take_3 ?_
    rw [hfig]
    refine Run.istore_n d_Co_take_4 rfl rfl ?_
    show Run _ _ _ _ _ _ [_, _, _, _] _ _ _
    refine Run.iload_n d_Co_take_5 rfl ?_
    refine Run.tswIn (off := 178) (tgt := 184) d_Co_take_6 (by decide +kernel) (by decide +kernel) (by decide +kernel) rfl ?_
    by_cases hv : 48 ≤ b ∧ b < 48 + nh
    · have hi1 : inB fg nh = true := by rw [hin nh (by omega)]; exact decide_eq_true hv
      have hfv := hval hv.1
      refine Run.aload_n d_Co_take_184 rfl ?_
      refine Run.getf d_Co_take_185 fl_Co_24 (by first | rfl | assumption) (by rfl) ?_
      refine Run.aload_n d_Co_take_188 rfl ?_
      refine Run.getf d_Co_take_189 fl_Co_35 (by first | rfl | assumption) (by rfl) ?_
      refine Run.iload_n d_Co_take_192 rfl ?_
      refine Run.aload_n d_Co_take_193 rfl ?_
      refine Run.getf d_Co_take_194 fl_Co_27 (by first | rfl | assumption) (by rfl) ?_
      refine Run.S4r d_Co_take_197 lk_Co_56 cm_Co_takeFigure st_Co_takeFigure (Nat.le_of_ble_eq_true rfl) (Nat.le_of_ble_eq_true rfl) (c_Co_takeFig1 (ka := 8) (f := fhd) rfl hnp (by omega) hi1) ?_
      refine run_hp (show _ = hX tx (fhk, fpt, fan, fkd, upd fhd np fg, cl, nI nh, nI np) cb 9 3 sd nw tr ac tu gi mo dn ch s0 s1 ++ t from rfl) ?_
      first | refine Run.if_eq_b d_Co_take_200 (fun c200 => ?_) (fun c200 => ?_) | refine Run.if_eq_n d_Co_take_200 (by omega) (fun c200 => ?_) (fun c200 => ?_) | refine Run.if_eq d_Co_take_200 (fun c200 => ?_) (fun c200 => ?_)
      · cases c200
      · refine Run.aload_n d_Co_take_203 rfl ?_
        refine Run.V0r d_Co_take_204 lk_Co_64 cm_Co_endPiece iv_Co_endPiece rfl (by first | rfl | assumption) (Nat.le_of_ble_eq_true rfl) (Nat.le_of_ble_eq_true rfl) (q_endPA) ?_
        refine Run.goto d_Co_take_207 ?_
        refine Run.iret d_Co_take_211 rfl rfl ?_
        refine Or.inr ⟨(2, li, hk, pt, an, kd, updN hd np (b - 48), nh, np + 1), (fhk, fpt, fan, fkd, upd fhd np fg, cl, nI nh, nI (np + 1)), by rw [e0, if_pos hv], ⟨fun z => r1 (by omega), rfl, rfl, r4, fun i hi => ?_, fun z => by omega, fun z => by omega, fun z => by omega⟩, rfl, rfl⟩
        show fpt i = nI (pt i) ∧ fan i = nI (an i) ∧ fkd i = nI (kd i) ∧ upd fhd np fg i = nI (updN hd np (b - 48) i)
        by_cases e : i = np
        · subst e
          rw [pk_us, updN_s]
          exact ⟨r6 (by omega), r7 (by omega), r8 (by omega), hfv⟩
        · rw [pk_un e, updN_n e]
          exact r5 i (by omega)
    · have hi1 : inB fg nh = false := by rw [hin nh (by omega)]; exact decide_eq_false hv
      refine Run.aload_n d_Co_take_184 rfl ?_
      refine Run.getf d_Co_take_185 fl_Co_24 (by first | rfl | assumption) (by rfl) ?_
      refine Run.aload_n d_Co_take_188 rfl ?_
      refine Run.getf d_Co_take_189 fl_Co_35 (by first | rfl | assumption) (by rfl) ?_
      refine Run.iload_n d_Co_take_192 rfl ?_
      refine Run.aload_n d_Co_take_193 rfl ?_
      refine Run.getf d_Co_take_194 fl_Co_27 (by first | rfl | assumption) (by rfl) ?_
      refine Run.S4r d_Co_take_197 lk_Co_56 cm_Co_takeFigure st_Co_takeFigure (Nat.le_of_ble_eq_true rfl) (Nat.le_of_ble_eq_true rfl) (c_Co_takeFig0 (ka := 8) (f := fhd) rfl hnp (by omega) hi1) ?_
      first | refine Run.if_eq_b d_Co_take_200 (fun c200 => ?_) (fun c200 => ?_) | refine Run.if_eq_n d_Co_take_200 (by omega) (fun c200 => ?_) (fun c200 => ?_) | refine Run.if_eq d_Co_take_200 (fun c200 => ?_) (fun c200 => ?_)
      · refine Run.iconst (v := -1) d_Co_take_210 ic_m1 ?_
        refine Run.iret d_Co_take_211 rfl rfl ?_
        exact Or.inl ⟨by rw [e0, if_neg hv], rfl, _, rfl⟩
      · cases c200
theorem q_Te_readA {n : Nat} {f : FI} {bt : Nat → Nat} {cs : CoS} (hn : n ≤ 48) (hf : ∀ k, k < n → f k = nI (bt k) ∧ bt k < 256) (htx : tx = (f, nI n)) : Call X (d + 3) 0 0 M_Te_readInto [.ref 2, .ref 4] (hX tx cs cb 9 3 sd nw tr ac tu gi mo dn ch s0 s1 ++ t) (fun r h2 => r = some (.int (fltR bt n)) ∧ ∃ cs2, h2 = hX tx cs2 cb 9 3 sd nw tr ac tu gi mo dn ch s0 s1 ++ t ∧ ∀ q, psI bt n = some q → PsR q cs2) := by
  subst htx
  show Run X (d + 3) 0 0 M_Te_readInto 0 [some (.ref 2), some (.ref 4), none, none] [] _ _
  obtain ⟨fhk, fpt, fan, fkd, fhd, cl, cnh, cnp⟩ := cs
  have key : Run X (d + 3) 0 0 M_Te_readInto 8 [some (.ref 2), some (.ref 4), some (.int (nI 0)), some (.int (nI 0))] [] (hX (f, nI n) (fhk, fpt, fan, fkd, fhd, nI 0, nI 0, nI 0) cb 9 3 sd nw tr ac tu gi mo dn ch s0 s1 ++ t) (fun r h2 => r = some (.int (fltR bt n)) ∧ ∃ cs2, h2 = hX (f, nI n) cs2 cb 9 3 sd nw tr ac tu gi mo dn ch s0 s1 ++ t ∧ ∀ q, psI bt n = some q → PsR q cs2) := by
    refine upto n (fun k => ∀ (q : PS) (cs2 : CoS), psI bt k = some q → PsR q cs2 → Run X (d + 3) 0 0 M_Te_readInto 8 [some (.ref 2), some (.ref 4), some (.int (nI q.1)), some (.int (nI k))] [] (hX (f, nI n) cs2 cb 9 3 sd nw tr ac tu gi mo dn ch s0 s1 ++ t) (fun r h2 => r = some (.int (fltR bt n)) ∧ ∃ cs2, h2 = hX (f, nI n) cs2 cb 9 3 sd nw tr ac tu gi mo dn ch s0 s1 ++ t ∧ ∀ q, psI bt n = some q → PsR q cs2)) ?_ 0 (Nat.zero_le _) ps0 _ rfl ⟨fun z => rfl, rfl, rfl, fun j hj => by omega, fun i hi => by omega, fun z => by omega, fun z => by omega, fun z => by omega⟩
    intro k hk ih q cs2 hq hr
    have hqk := psI_ok hq
    have hq7 : q.1 ≤ 7 := hqk.1
    have hA : k < n → psS q (bt k) = none → ∀ cs3, Run X (d + 3) 0 0 M_Te_readInto 27 [some (.ref 2), some (.ref 4), some (.int (nI q.1)), some (.int (nI k))] [.int (-1)] (hX (f, nI n) cs3 cb 9 3 sd nw tr ac tu gi mo dn ch s0 s1 ++ t) (fun r h2 => r = some (.int (fltR bt n)) ∧ ∃ cs2, h2 = hX (f, nI n) cs2 cb 9 3 sd nw tr ac tu gi mo dn ch s0 s1 ++ t ∧ ∀ q, psI bt n = some q → PsR q cs2) := by
      intro hlt hN cs3
      have hnone : psI bt (k + 1) = none := by rw [psI_s hq]; exact hN
      refine Run.istore_n d_Te_readInto_27 rfl rfl ?_
      show Run _ _ _ _ _ _ [_, _, _, _] _ _ _
      refine Run.iload_n d_Te_readInto_28 rfl ?_
      refine Run.iconst (v := -1) d_Te_readInto_29 ic_m1 ?_
      first | refine Run.icmp_ne_n d_Te_readInto_30 (by omega) (by omega) (fun c30 => ?_) (fun c30 => ?_) | refine Run.icmp_ne d_Te_readInto_30 (fun c30 => ?_) (fun c30 => ?_)
      · exact absurd rfl c30
      · refine Run.iload_n d_Te_readInto_33 rfl ?_
        refine Run.iret d_Te_readInto_34 rfl rfl ?_
        refine ⟨by rw [flt_bad hq hN hlt], cs3, rfl, fun q2 hq2 => ?_⟩
        exfalso
        have up : ∀ m, k + 1 ≤ m → psI bt m = none := by
          intro m hm
          induction m with
          | zero => omega
          | succ m ihm =>
            by_cases e : k + 1 = m + 1
            · rw [← e]; exact hnone
            · cases hm2 : psI bt (m + 1) with
              | none => rfl
              | some q5 =>
                obtain ⟨q6, h6⟩ := psI_p hm2
                rw [ihm (by omega)] at h6
                cases h6
        rw [up n (by omega)] at hq2
        cases hq2
    have hB : k < n → ∀ q2 cs3, psS q (bt k) = some q2 → PsR q2 cs3 → Run X (d + 3) 0 0 M_Te_readInto 27 [some (.ref 2), some (.ref 4), some (.int (nI q.1)), some (.int (nI k))] [.int (nI q2.1)] (hX (f, nI n) cs3 cb 9 3 sd nw tr ac tu gi mo dn ch s0 s1 ++ t) (fun r h2 => r = some (.int (fltR bt n)) ∧ ∃ cs2, h2 = hX (f, nI n) cs2 cb 9 3 sd nw tr ac tu gi mo dn ch s0 s1 ++ t ∧ ∀ q, psI bt n = some q → PsR q cs2) := by
      intro hlt q2 cs3 hS hr2
      have hq2 : psI bt (k + 1) = some q2 := by rw [psI_s hq]; exact hS
      have h27 : q2.1 ≤ 7 := (psI_ok hq2).1
      refine Run.istore_n d_Te_readInto_27 rfl rfl ?_
      show Run _ _ _ _ _ _ [_, _, _, _] _ _ _
      refine Run.iload_n d_Te_readInto_28 rfl ?_
      refine Run.iconst (v := -1) d_Te_readInto_29 ic_m1 ?_
      first | refine Run.icmp_ne_n d_Te_readInto_30 (by omega) (by omega) (fun c30 => ?_) (fun c30 => ?_) | refine Run.icmp_ne d_Te_readInto_30 (fun c30 => ?_) (fun c30 => ?_)
      · first | refine Run.iinc_n d_Te_readInto_35 ic_1 rfl rfl ?_ | refine Run.iinc d_Te_readInto_35 rfl rfl rfl ?_
        show Run _ _ _ _ _ _ [_, _, _, _] _ _ _
        refine Run.goto d_Te_readInto_38 ?_
        exact ih hlt q2 cs3 hq2 hr2
      · exact absurd c30 (fun z => by have := nI_pos' (n := q2.1) (by omega); rw [z] at this; exact absurd this (by decide))
    refine Run.iload_n d_Te_readInto_8 rfl ?_
    refine Run.aload_n d_Te_readInto_9 rfl ?_
    refine Run.getf d_Te_readInto_10 fl_Te_15 (by first | rfl | assumption) (by rfl) ?_
    first | refine Run.icmp_ge_n d_Te_readInto_13 (by omega) (by omega) (fun c13 => ?_) (fun c13 => ?_) | refine Run.icmp_ge d_Te_readInto_13 (fun c13 => ?_) (fun c13 => ?_)
    · have e8 : k = n := by omega
      subst e8
      have hfe := flt_end hq
      refine Run.iload_n d_Te_readInto_41 rfl ?_
      refine Run.iconst (v := nI 2) d_Te_readInto_42 ic_2 ?_
      first | refine Run.icmp_ne_n d_Te_readInto_43 (by omega) (by omega) (fun c43 => ?_) (fun c43 => ?_) | refine Run.icmp_ne d_Te_readInto_43 (fun c43 => ?_) (fun c43 => ?_)
      · refine Run.aload_n d_Te_readInto_51 rfl ?_
        refine Run.getf d_Te_readInto_52 fl_Te_15 (by first | rfl | assumption) (by rfl) ?_
        refine Run.iret d_Te_readInto_55 rfl rfl ?_
        refine ⟨?_, cs2, rfl, fun q2 hq2 => by rw [hq] at hq2; cases hq2; exact hr⟩
        first
          | (rw [hfe, if_pos c43]; done)
          | (rw [hfe, if_neg c43]; done)
      · refine Run.bipush (v := -9) d_Te_readInto_46 bp_m9 ?_
        refine Run.goto d_Te_readInto_48 ?_
        refine Run.iret d_Te_readInto_55 rfl rfl ?_
        refine ⟨?_, cs2, rfl, fun q2 hq2 => by rw [hq] at hq2; cases hq2; exact hr⟩
        first
          | (rw [hfe, if_pos c43]; done)
          | (rw [hfe, if_neg c43]; done)
    · refine Run.aload_n d_Te_readInto_16 rfl ?_
      refine Run.iload_n d_Te_readInto_17 rfl ?_
      refine Run.aload_n d_Te_readInto_18 rfl ?_
      refine Run.getf d_Te_readInto_19 fl_Te_9 (by first | rfl | assumption) (by rfl) ?_
      refine Run.iload_n d_Te_readInto_22 rfl ?_
      refine Run.iald_n d_Te_readInto_23 (by first | rfl | assumption) (by omega) (by omega) ?_
      rw [show (f, nI n).1 k = nI (bt k) from (hf k c13).1]
      refine Run.V2 d_Te_readInto_24 lk_Te_24 cm_Co_take iv_Co_take rfl (by first | rfl | assumption) (Nat.le_of_ble_eq_true rfl) (Nat.le_of_ble_eq_true rfl) (q_Co_takeA (tx := (f, nI n)) (hf k c13).2 hqk hr) (fun r24 h24 q24 => ?_)
      rcases q24 with ⟨hN, rfl, cs3, rfl⟩ | ⟨q2, cs3, hS, hr2, rfl, rfl⟩
      · exact hA c13 hN cs3
      · exact hB c13 q2 cs3 hS hr2
  refine Run.aload_n d_Te_readInto_0 rfl ?_
  refine Run.V0v d_Te_readInto_1 lk_Te_19 cm_Co_clear iv_Co_clear rfl (by first | rfl | assumption) (Nat.le_of_ble_eq_true rfl) (Nat.le_of_ble_eq_true rfl) (q_clearA) ?_
  refine Run.iconst (v := nI 0) d_Te_readInto_4 ic_0 ?_
  refine Run.istore_n d_Te_readInto_5 rfl rfl ?_
  show Run _ _ _ _ _ _ [_, _, _, _] _ _ _
  refine Run.iconst (v := nI 0) d_Te_readInto_6 ic_0 ?_
  refine Run.istore_n d_Te_readInto_7 rfl rfl ?_
  show Run _ _ _ _ _ _ [_, _, _, _] _ _ _
  exact key
theorem q_endHB {fhk fpt fan fkd fhd : FI} {cl cnp : Int32} {nh : Nat} : Call X d 0 0 M_Co_endHolder [.ref 10] (hX tx ca (fhk, fpt, fan, fkd, fhd, cl, nI nh, cnp) 3 9 sd nw tr ac tu gi mo dn ch s0 s1 ++ t) (Ret (.int (nI 2)) (hX tx ca (fhk, fpt, fan, fkd, fhd, cl, nI (nh + 1), cnp) 3 9 sd nw tr ac tu gi mo dn ch s0 s1 ++ t)) := by
  show Run X d 0 0 M_Co_endHolder 0 [some (.ref 10)] [] _ _
  refine Run.aload_n d_Co_endHolder_0 rfl ?_
  refine Run.dup d_Co_endHolder_1 rfl ?_
  refine Run.getf d_Co_endHolder_2 fl_Co_27 (by first | rfl | assumption) (by rfl) ?_
  refine Run.iconst (v := nI 1) d_Co_endHolder_5 ic_1 ?_
  first | refine Run.iadd_n d_Co_endHolder_6 ?_ | refine Run.iadd d_Co_endHolder_6 ?_
  refine Run.putf d_Co_endHolder_7 fl_Co_27 (fun _ => rfl) (fun _ => rfl) (by first | rfl | assumption) (by exact Nat.le_of_ble_eq_true rfl) ?_
  refine Run.iconst (v := nI 2) d_Co_endHolder_10 ic_2 ?_
  refine Run.iret d_Co_endHolder_11 rfl rfl ?_
  exact ⟨rfl, rfl⟩
theorem q_endPB {fhk fpt fan fkd fhd : FI} {cl cnh : Int32} {np : Nat} : Call X d 0 0 M_Co_endPiece [.ref 10] (hX tx ca (fhk, fpt, fan, fkd, fhd, cl, cnh, nI np) 3 9 sd nw tr ac tu gi mo dn ch s0 s1 ++ t) (Ret (.int (nI 2)) (hX tx ca (fhk, fpt, fan, fkd, fhd, cl, cnh, nI (np + 1)) 3 9 sd nw tr ac tu gi mo dn ch s0 s1 ++ t)) := by
  show Run X d 0 0 M_Co_endPiece 0 [some (.ref 10)] [] _ _
  refine Run.aload_n d_Co_endPiece_0 rfl ?_
  refine Run.dup d_Co_endPiece_1 rfl ?_
  refine Run.getf d_Co_endPiece_2 fl_Co_35 (by first | rfl | assumption) (by rfl) ?_
  refine Run.iconst (v := nI 1) d_Co_endPiece_5 ic_1 ?_
  first | refine Run.iadd_n d_Co_endPiece_6 ?_ | refine Run.iadd d_Co_endPiece_6 ?_
  refine Run.putf d_Co_endPiece_7 fl_Co_35 (fun _ => rfl) (fun _ => rfl) (by first | rfl | assumption) (by exact Nat.le_of_ble_eq_true rfl) ?_
  refine Run.iconst (v := nI 2) d_Co_endPiece_10 ic_2 ?_
  refine Run.iret d_Co_endPiece_11 rfl rfl ?_
  exact ⟨rfl, rfl⟩
theorem q_clearB {fhk fpt fan fkd fhd : FI} {cl cnh cnp : Int32} : Call X d 0 0 M_Co_clear [.ref 10] (hX tx ca (fhk, fpt, fan, fkd, fhd, cl, cnh, cnp) 3 9 sd nw tr ac tu gi mo dn ch s0 s1 ++ t) (Rv (hX tx ca (fhk, fpt, fan, fkd, fhd, nI 0, nI 0, nI 0) 3 9 sd nw tr ac tu gi mo dn ch s0 s1 ++ t)) := by
  show Run X d 0 0 M_Co_clear 0 [some (.ref 10)] [] _ _
  refine Run.aload_n d_Co_clear_0 rfl ?_
  refine Run.iconst (v := nI 0) d_Co_clear_1 ic_0 ?_
  refine Run.putf d_Co_clear_2 fl_Co_49 (fun _ => rfl) (fun _ => rfl) (by first | rfl | assumption) (by exact Nat.le_of_ble_eq_true rfl) ?_
  refine Run.aload_n d_Co_clear_5 rfl ?_
  refine Run.iconst (v := nI 0) d_Co_clear_6 ic_0 ?_
  refine Run.putf d_Co_clear_7 fl_Co_27 (fun _ => rfl) (fun _ => rfl) (by first | rfl | assumption) (by exact Nat.le_of_ble_eq_true rfl) ?_
  refine Run.aload_n d_Co_clear_10 rfl ?_
  refine Run.iconst (v := nI 0) d_Co_clear_11 ic_0 ?_
  refine Run.putf d_Co_clear_12 fl_Co_35 (fun _ => rfl) (fun _ => rfl) (by first | rfl | assumption) (by exact Nat.le_of_ble_eq_true rfl) ?_
  refine Run.vret d_Co_clear_15 rfl ?_
  exact ⟨rfl, rfl⟩
theorem q_Co_thingB {cs : CoS} {b nh np : Nat} (hb : b < 256) (h1 : cs.2.2.2.2.2.2.1 = nI nh) (h2 : cs.2.2.2.2.2.2.2 = nI np) (hn1 : nh ≤ 4) (hn2 : np ≤ 6) : Call X d 0 0 M_Co_takeThing [.ref 10, .int (nI b)] (hX tx ca cs 3 9 sd nw tr ac tu gi mo dn ch s0 s1 ++ t) (Ret (.int (if b = 72 ∧ nh < 4 then nI 3 else if b = 67 ∧ 0 < nh ∧ np < 6 then nI 4 else -1)) (hX tx ca cs 3 9 sd nw tr ac tu gi mo dn ch s0 s1 ++ t)) := by
  show Run X d 0 0 M_Co_takeThing 0 [some (.ref 10), some (.int (nI b))] [] _ _
  refine Run.iload_n d_Co_takeThing_0 rfl ?_
  refine Run.bipush (v := nI 72) d_Co_takeThing_1 bp_72 ?_
  first | refine Run.icmp_ne_n d_Co_takeThing_3 (by omega) (by omega) (fun c3 => ?_) (fun c3 => ?_) | refine Run.icmp_ne d_Co_takeThing_3 (fun c3 => ?_) (fun c3 => ?_)
  · refine Run.iload_n d_Co_takeThing_16 rfl ?_
    refine Run.bipush (v := nI 67) d_Co_takeThing_17 bp_67 ?_
    first | refine Run.icmp_ne_n d_Co_takeThing_19 (by omega) (by omega) (fun c19 => ?_) (fun c19 => ?_) | refine Run.icmp_ne d_Co_takeThing_19 (fun c19 => ?_) (fun c19 => ?_)
    · refine Run.iconst (v := -1) d_Co_takeThing_40 ic_m1 ?_
      refine Run.iret d_Co_takeThing_41 rfl rfl ?_
      exact ret_i (by rw [if_neg (fun z => by omega), if_neg (fun z => by omega)])
    · refine Run.aload_n d_Co_takeThing_22 rfl ?_
      refine Run.getf d_Co_takeThing_23 fl_Co_27 (by first | rfl | assumption) (by rfl) ?_
      rw [h1]
      first | refine Run.if_le_n d_Co_takeThing_26 (by omega) (fun c26 => ?_) (fun c26 => ?_) | refine Run.if_le d_Co_takeThing_26 (fun c26 => ?_) (fun c26 => ?_)
      · refine Run.iconst (v := -1) d_Co_takeThing_40 ic_m1 ?_
        refine Run.iret d_Co_takeThing_41 rfl rfl ?_
        exact ret_i (by rw [if_neg (fun z => by omega), if_neg (fun z => by omega)])
      · refine Run.aload_n d_Co_takeThing_29 rfl ?_
        refine Run.getf d_Co_takeThing_30 fl_Co_35 (by first | rfl | assumption) (by rfl) ?_
        rw [h2]
        refine Run.bipush (v := nI 6) d_Co_takeThing_33 bp_6 ?_
        first | refine Run.icmp_ge_n d_Co_takeThing_35 (by omega) (by omega) (fun c35 => ?_) (fun c35 => ?_) | refine Run.icmp_ge d_Co_takeThing_35 (fun c35 => ?_) (fun c35 => ?_)
        · refine Run.iconst (v := -1) d_Co_takeThing_40 ic_m1 ?_
          refine Run.iret d_Co_takeThing_41 rfl rfl ?_
          exact ret_i (by rw [if_neg (fun z => by omega), if_neg (fun z => by omega)])
        · refine Run.iconst (v := nI 4) d_Co_takeThing_38 ic_4 ?_
          refine Run.iret d_Co_takeThing_39 rfl rfl ?_
          exact ret_i (by rw [if_neg (fun z => by omega), if_pos ⟨c19, c26, c35⟩])
  · refine Run.aload_n d_Co_takeThing_6 rfl ?_
    refine Run.getf d_Co_takeThing_7 fl_Co_27 (by first | rfl | assumption) (by rfl) ?_
    rw [h1]
    refine Run.iconst (v := nI 4) d_Co_takeThing_10 ic_4 ?_
    first | refine Run.icmp_ge_n d_Co_takeThing_11 (by omega) (by omega) (fun c11 => ?_) (fun c11 => ?_) | refine Run.icmp_ge d_Co_takeThing_11 (fun c11 => ?_) (fun c11 => ?_)
    · refine Run.iload_n d_Co_takeThing_16 rfl ?_
      refine Run.bipush (v := nI 67) d_Co_takeThing_17 bp_67 ?_
      first | refine Run.icmp_ne_n d_Co_takeThing_19 (by omega) (by omega) (fun c19 => ?_) (fun c19 => ?_) | refine Run.icmp_ne d_Co_takeThing_19 (fun c19 => ?_) (fun c19 => ?_)
      · refine Run.iconst (v := -1) d_Co_takeThing_40 ic_m1 ?_
        refine Run.iret d_Co_takeThing_41 rfl rfl ?_
        exact ret_i (by rw [if_neg (fun z => by omega), if_neg (fun z => by omega)])
      · refine Run.aload_n d_Co_takeThing_22 rfl ?_
        refine Run.getf d_Co_takeThing_23 fl_Co_27 (by first | rfl | assumption) (by rfl) ?_
        rw [h1]
        first | refine Run.if_le_n d_Co_takeThing_26 (by omega) (fun c26 => ?_) (fun c26 => ?_) | refine Run.if_le d_Co_takeThing_26 (fun c26 => ?_) (fun c26 => ?_)
        · refine Run.iconst (v := -1) d_Co_takeThing_40 ic_m1 ?_
          refine Run.iret d_Co_takeThing_41 rfl rfl ?_
          exact ret_i (by rw [if_neg (fun z => by omega), if_neg (fun z => by omega)])
        · refine Run.aload_n d_Co_takeThing_29 rfl ?_
          refine Run.getf d_Co_takeThing_30 fl_Co_35 (by first | rfl | assumption) (by rfl) ?_
          rw [h2]
          refine Run.bipush (v := nI 6) d_Co_takeThing_33 bp_6 ?_
          first | refine Run.icmp_ge_n d_Co_takeThing_35 (by omega) (by omega) (fun c35 => ?_) (fun c35 => ?_) | refine Run.icmp_ge d_Co_takeThing_35 (fun c35 => ?_) (fun c35 => ?_)
          · refine Run.iconst (v := -1) d_Co_takeThing_40 ic_m1 ?_
            refine Run.iret d_Co_takeThing_41 rfl rfl ?_
            exact ret_i (by rw [if_neg (fun z => by omega), if_neg (fun z => by omega)])
          · refine Run.iconst (v := nI 4) d_Co_takeThing_38 ic_4 ?_
            refine Run.iret d_Co_takeThing_39 rfl rfl ?_
            exact ret_i (by rw [if_neg (fun z => by omega), if_pos ⟨c19, c26, c35⟩])
    · refine Run.iconst (v := nI 3) d_Co_takeThing_14 ic_3 ?_
      refine Run.iret d_Co_takeThing_15 rfl rfl ?_
      exact ret_i (by rw [if_pos ⟨c3, c11⟩])
theorem q_Co_takeB {q : PS} {cs : CoS} {b : Nat} (hb : b < 256) (hq : psOK q) (hr : PsR q cs) : Call X (d + 2) 0 0 M_Co_take [.ref 10, .int (nI q.1), .int (nI b)] (hX tx ca cs 3 9 sd nw tr ac tu gi mo dn ch s0 s1 ++ t) (fun r h2 => (psS q b = none ∧ r = some (.int (-1)) ∧ ∃ cs2, h2 = hX tx ca cs2 3 9 sd nw tr ac tu gi mo dn ch s0 s1 ++ t) ∨ ∃ q2 cs2, psS q b = some q2 ∧ PsR q2 cs2 ∧ r = some (.int (nI q2.1)) ∧ h2 = hX tx ca cs2 3 9 sd nw tr ac tu gi mo dn ch s0 s1 ++ t) := by
  obtain ⟨du, li, hk, pt, an, kd, hd, nh, np⟩ := q
  obtain ⟨fhk, fpt, fan, fkd, fhd, cl, cnh, cnp⟩ := cs
  obtain ⟨a1, a2, a3, a4, a5, a6, a7, a8, a9, a10, a11⟩ := hq
  obtain ⟨r1, r2, r3, r4, r5, r6, r7, r8⟩ := hr
  have r2 : cnh = nI nh := r2
  have r3 : cnp = nI np := r3
  subst r2
  subst r3
  show Run X (d + 2) 0 0 M_Co_take 0 [some (.ref 10), some (.int (nI du)), some (.int (nI b)), none] [] _ _
  generalize hfig : nI b - nI 48 = fg
  have hin : ∀ L, L ≤ 100 → inB fg L = decide (48 ≤ b ∧ b < 48 + L) := fun L hL => by rw [← hfig]; exact fg_in hb hL
  have hval : 48 ≤ b → fg = nI (b - 48) := fun z => by rw [← hfig, pk_sub z]
  rcases (show du = 0 ∨ du = 1 ∨ du = 2 ∨ du = 3 ∨ du = 4 ∨ du = 5 ∨ du = 6 ∨ du = 7 by omega) with rfl | rfl | rfl | rfl | rfl | rfl | rfl | rfl
  · have e0 : psS (0, li, hk, pt, an, kd, hd, nh, np) b = if b = 80 then some (1, li, hk, pt, an, kd, hd, nh, np) else none := rfl
    refine Run.iload_n d_Co_take_0 rfl ?_
    refine Run.bipush (v := nI 48) d_Co_take_1 bp_48 ?_
    refine Run.isub d_Co_take_3 ?_
    rw [hfig]
    refine Run.istore_n d_Co_take_4 rfl rfl ?_
    show Run _ _ _ _ _ _ [_, _, _, _] _ _ _
    refine Run.iload_n d_Co_take_5 rfl ?_
    refine Run.tswIn (off := 46) (tgt := 52) d_Co_take_6 (by decide +kernel) (by decide +kernel) (by decide +kernel) rfl ?_
    refine Run.iload_n d_Co_take_52 rfl ?_
    refine Run.bipush (v := nI 80) d_Co_take_53 bp_80 ?_
    first | refine Run.icmp_ne_n d_Co_take_55 (by omega) (by omega) (fun c55 => ?_) (fun c55 => ?_) | refine Run.icmp_ne d_Co_take_55 (fun c55 => ?_) (fun c55 => ?_)
    · refine Run.iconst (v := -1) d_Co_take_62 ic_m1 ?_
      refine Run.iret d_Co_take_63 rfl rfl ?_
      first
      | (have q0 : ¬ b = 80 := c55; exact Or.inl ⟨by rw [e0, if_neg q0], rfl, _, rfl⟩)
      | (have q0 : b = 80 := c55; exact Or.inr ⟨(1, li, hk, pt, an, kd, hd, nh, np), (fhk, fpt, fan, fkd, fhd, cl, nI nh, nI np), by rw [e0, if_pos q0], ⟨fun z => by omega, rfl, rfl, r4, r5, fun z => by omega, fun z => by omega, fun z => by omega⟩, rfl, rfl⟩)
    · refine Run.iconst (v := nI 1) d_Co_take_58 ic_1 ?_
      refine Run.goto d_Co_take_59 ?_
      refine Run.iret d_Co_take_63 rfl rfl ?_
      first
      | (have q0 : ¬ b = 80 := c55; exact Or.inl ⟨by rw [e0, if_neg q0], rfl, _, rfl⟩)
      | (have q0 : b = 80 := c55; exact Or.inr ⟨(1, li, hk, pt, an, kd, hd, nh, np), (fhk, fpt, fan, fkd, fhd, cl, nI nh, nI np), by rw [e0, if_pos q0], ⟨fun z => by omega, rfl, rfl, r4, r5, fun z => by omega, fun z => by omega, fun z => by omega⟩, rfl, rfl⟩)
  · have e0 : psS (1, li, hk, pt, an, kd, hd, nh, np) b = if 48 ≤ b ∧ b < 48 + 8 then some (2, b - 48, hk, pt, an, kd, hd, nh, np) else none := rfl
    refine Run.iload_n d_Co_take_0 rfl ?_
    refine Run.bipush (v := nI 48) d_Co_take_1 bp_48 ?_
    refine Run.isub d_Co_take_3 ?_
    rw [hfig]
    refine Run.istore_n d_Co_take_4 rfl rfl ?_
    show Run _ _ _ _ _ _ [_, _, _, _] _ _ _
    refine Run.iload_n d_Co_take_5 rfl ?_
    refine Run.tswIn (off := 58) (tgt := 64) d_Co_take_6 (by decide +kernel) (by decide +kernel) (by decide +kernel) rfl ?_
    refine Run.aload_n d_Co_take_64 rfl ?_
    refine Run.iload_n d_Co_take_65 rfl ?_
    refine Run.putf d_Co_take_66 fl_Co_49 (fun _ => rfl) (fun _ => rfl) (by first | rfl | assumption) (by exact Nat.le_of_ble_eq_true rfl) ?_
    refine run_hp (show _ = hX tx ca (fhk, fpt, fan, fkd, fhd, fg, nI nh, nI np) 3 9 sd nw tr ac tu gi mo dn ch s0 s1 ++ t from rfl) ?_
    refine Run.iload_n d_Co_take_69 rfl ?_
    refine Run.bipush (v := nI 8) d_Co_take_70 bp_8 ?_
    refine Run.S2r d_Co_take_72 lk_Co_31 cm_PM_isBelow st_PM_isBelow (Nat.le_of_ble_eq_true rfl) (Nat.le_of_ble_eq_true rfl) (c_PM_isBelow) ?_
    rw [show (decide (0 ≤ fg) && decide (fg < nI 8)) = inB fg 8 from rfl, hin 8 (by omega)]
    first | refine Run.if_eq_b d_Co_take_75 (fun c75 => ?_) (fun c75 => ?_) | refine Run.if_eq_n d_Co_take_75 (by omega) (fun c75 => ?_) (fun c75 => ?_) | refine Run.if_eq d_Co_take_75 (fun c75 => ?_) (fun c75 => ?_)
    · refine Run.iconst (v := -1) d_Co_take_82 ic_m1 ?_
      refine Run.iret d_Co_take_83 rfl rfl ?_
      first
      | exact Or.inl ⟨by rw [e0, if_neg (of_decide_eq_false c75)], rfl, _, rfl⟩
      | exact Or.inr ⟨(2, b - 48, hk, pt, an, kd, hd, nh, np), (fhk, fpt, fan, fkd, fhd, fg, nI nh, nI np), by rw [e0, if_pos (of_decide_eq_true c75)], ⟨fun z => hval (of_decide_eq_true c75).1, rfl, rfl, r4, r5, fun z => by omega, fun z => by omega, fun z => by omega⟩, rfl, rfl⟩
    · refine Run.iconst (v := nI 2) d_Co_take_78 ic_2 ?_
      refine Run.goto d_Co_take_79 ?_
      refine Run.iret d_Co_take_83 rfl rfl ?_
      first
      | exact Or.inl ⟨by rw [e0, if_neg (of_decide_eq_false c75)], rfl, _, rfl⟩
      | exact Or.inr ⟨(2, b - 48, hk, pt, an, kd, hd, nh, np), (fhk, fpt, fan, fkd, fhd, fg, nI nh, nI np), by rw [e0, if_pos (of_decide_eq_true c75)], ⟨fun z => hval (of_decide_eq_true c75).1, rfl, rfl, r4, r5, fun z => by omega, fun z => by omega, fun z => by omega⟩, rfl, rfl⟩
  · have e0 : psS (2, li, hk, pt, an, kd, hd, nh, np) b = if b = 72 ∧ nh < 4 then some (3, li, hk, pt, an, kd, hd, nh, np) else if b = 67 ∧ 0 < nh ∧ np < 6 then some (4, li, hk, pt, an, kd, hd, nh, np) else none := rfl
    refine Run.iload_n d_Co_take_0 rfl ?_
    refine Run.bipush (v := nI 48) d_Co_take_1 bp_48 ?_
    refine Run.isub d_Co_take_3 ?_
    rw [hfig]
    refine Run.istore_n d_Co_take_4 rfl rfl ?_
    show Run _ _ _ _ _ _ [_, _, _, _] _ _ _
    refine Run.iload_n d_Co_take_5 rfl ?_
    refine Run.tswIn (off := 78) (tgt := 84) d_Co_take_6 (by decide +kernel) (by decide +kernel) (by decide +kernel) rfl ?_
    refine Run.aload_n d_Co_take_84 rfl ?_
    refine Run.iload_n d_Co_take_85 rfl ?_
    refine Run.V1r d_Co_take_86 lk_Co_52 cm_Co_takeThing iv_Co_takeThing rfl (by first | rfl | assumption) (Nat.le_of_ble_eq_true rfl) (Nat.le_of_ble_eq_true rfl) (q_Co_thingB (cs := (fhk, fpt, fan, fkd, fhd, cl, nI nh, nI np)) hb rfl rfl a2 a3) ?_
    refine Run.iret d_Co_take_89 rfl rfl ?_
    by_cases h1 : b = 72 ∧ nh < 4
    · rw [if_pos h1] at e0 ⊢
      exact Or.inr ⟨(3, li, hk, pt, an, kd, hd, nh, np), (fhk, fpt, fan, fkd, fhd, cl, nI nh, nI np), e0, ⟨fun z => r1 (by omega), rfl, rfl, r4, r5, fun z => by omega, fun z => by omega, fun z => by omega⟩, rfl, rfl⟩
    · rw [if_neg h1] at e0 ⊢
      by_cases h2 : b = 67 ∧ 0 < nh ∧ np < 6
      · rw [if_pos h2] at e0 ⊢
        exact Or.inr ⟨(4, li, hk, pt, an, kd, hd, nh, np), (fhk, fpt, fan, fkd, fhd, cl, nI nh, nI np), e0, ⟨fun z => r1 (by omega), rfl, rfl, r4, r5, fun z => by omega, fun z => by omega, fun z => by omega⟩, rfl, rfl⟩
      · rw [if_neg h2] at e0 ⊢
        exact Or.inl ⟨e0, rfl, _, rfl⟩
  · have e0 : psS (3, li, hk, pt, an, kd, hd, nh, np) b = if 48 ≤ b ∧ b < 48 + 4 then some (2, li, updN hk nh (b - 48), pt, an, kd, hd, nh + 1, np) else none := rfl
    have hnh := a5 rfl
    refine Run.iload_n d_Co_take_0 rfl ?_
    refine Run.bipush (v := nI 48) d_Co_take_1 bp_48 ?_
    refine Run.isub d_Co_take_3 ?_
    rw [hfig]
    refine Run.istore_n d_Co_take_4 rfl rfl ?_
    show Run _ _ _ _ _ _ [_, _, _, _] _ _ _
    refine Run.iload_n d_Co_take_5 rfl ?_
    refine Run.tswIn (off := 84) (tgt := 90) d_Co_take_6 (by decide +kernel) (by decide +kernel) (by decide +kernel) rfl ?_
    by_cases hv : 48 ≤ b ∧ b < 48 + 4
    · have hi1 : inB fg 4 = true := by rw [hin 4 (by omega)]; exact decide_eq_true hv
      have hfv := hval hv.1
      refine Run.aload_n d_Co_take_90 rfl ?_
      refine Run.getf d_Co_take_91 fl_Co_9 (by first | rfl | assumption) (by rfl) ?_
      refine Run.aload_n d_Co_take_94 rfl ?_
      refine Run.getf d_Co_take_95 fl_Co_27 (by first | rfl | assumption) (by rfl) ?_
      refine Run.iload_n d_Co_take_98 rfl ?_
      refine Run.iconst (v := nI 4) d_Co_take_99 ic_4 ?_
      refine Run.S4r d_Co_take_100 lk_Co_56 cm_Co_takeFigure st_Co_takeFigure (Nat.le_of_ble_eq_true rfl) (Nat.le_of_ble_eq_true rfl) (c_Co_takeFig1 (ka := 10) (f := fhk) rfl hnh (by omega) hi1) ?_
      refine run_hp (show _ = hX tx ca (upd fhk nh fg, fpt, fan, fkd, fhd, cl, nI nh, nI np) 3 9 sd nw tr ac tu gi mo dn ch s0 s1 ++ t from rfl) ?_
      first | refine Run.if_eq_b d_Co_take_103 (fun c103 => ?_) (fun c103 => ?_) | refine Run.if_eq_n d_Co_take_103 (by omega) (fun c103 => ?_) (fun c103 => ?_) | refine Run.if_eq d_Co_take_103 (fun c103 => ?_) (fun c103 => ?_)
      · cases c103
      · refine Run.aload_n d_Co_take_106 rfl ?_
        refine Run.V0r d_Co_take_107 lk_Co_60 cm_Co_endHolder iv_Co_endHolder rfl (by first | rfl | assumption) (Nat.le_of_ble_eq_true rfl) (Nat.le_of_ble_eq_true rfl) (q_endHB) ?_
        refine Run.goto d_Co_take_110 ?_
        refine Run.iret d_Co_take_114 rfl rfl ?_
        refine Or.inr ⟨(2, li, updN hk nh (b - 48), pt, an, kd, hd, nh + 1, np), (upd fhk nh fg, fpt, fan, fkd, fhd, cl, nI (nh + 1), nI np), by rw [e0, if_pos hv], ⟨fun z => r1 (by omega), rfl, rfl, ?_, r5, fun z => by omega, fun z => by omega, fun z => by omega⟩, rfl, rfl⟩
        rw [hfv]
        exact upR r4
    · have hi1 : inB fg 4 = false := by rw [hin 4 (by omega)]; exact decide_eq_false hv
      refine Run.aload_n d_Co_take_90 rfl ?_
      refine Run.getf d_Co_take_91 fl_Co_9 (by first | rfl | assumption) (by rfl) ?_
      refine Run.aload_n d_Co_take_94 rfl ?_
      refine Run.getf d_Co_take_95 fl_Co_27 (by first | rfl | assumption) (by rfl) ?_
      refine Run.iload_n d_Co_take_98 rfl ?_
      refine Run.iconst (v := nI 4) d_Co_take_99 ic_4 ?_
      refine Run.S4r d_Co_take_100 lk_Co_56 cm_Co_takeFigure st_Co_takeFigure (Nat.le_of_ble_eq_true rfl) (Nat.le_of_ble_eq_true rfl) (c_Co_takeFig0 (ka := 10) (f := fhk) rfl hnh (by omega) hi1) ?_
      first | refine Run.if_eq_b d_Co_take_103 (fun c103 => ?_) (fun c103 => ?_) | refine Run.if_eq_n d_Co_take_103 (by omega) (fun c103 => ?_) (fun c103 => ?_) | refine Run.if_eq d_Co_take_103 (fun c103 => ?_) (fun c103 => ?_)
      · refine Run.iconst (v := -1) d_Co_take_113 ic_m1 ?_
        refine Run.iret d_Co_take_114 rfl rfl ?_
        exact Or.inl ⟨by rw [e0, if_neg hv], rfl, _, rfl⟩
      · cases c103
  · have e0 : psS (4, li, hk, pt, an, kd, hd, nh, np) b = if 48 ≤ b ∧ b < 48 + 5 then some (5, li, hk, updN pt np (b - 48), an, kd, hd, nh, np) else none := rfl
    have hnp := (a6 (by omega)).1
    refine Run.iload_n d_Co_take_0 rfl ?_
    refine Run.bipush (v := nI 48) d_Co_take_1 bp_48 ?_
    refine Run.isub d_Co_take_3 ?_
    rw [hfig]
    refine Run.istore_n d_Co_take_4 rfl rfl ?_
    show Run _ _ _ _ _ _ [_, _, _, _] _ _ _
    refine Run.iload_n d_Co_take_5 rfl ?_
    refine Run.tswIn (off := 109) (tgt := 115) d_Co_take_6 (by decide +kernel) (by decide +kernel) (by decide +kernel) rfl ?_
    by_cases hv : 48 ≤ b ∧ b < 48 + 5
    · have hi1 : inB fg 5 = true := by rw [hin 5 (by omega)]; exact decide_eq_true hv
      have hfv := hval hv.1
      refine Run.aload_n d_Co_take_115 rfl ?_
      refine Run.getf d_Co_take_116 fl_Co_15 (by first | rfl | assumption) (by rfl) ?_
      refine Run.aload_n d_Co_take_119 rfl ?_
      refine Run.getf d_Co_take_120 fl_Co_35 (by first | rfl | assumption) (by rfl) ?_
      refine Run.iload_n d_Co_take_123 rfl ?_
      refine Run.iconst (v := nI 5) d_Co_take_124 ic_5 ?_
      refine Run.S4r d_Co_take_125 lk_Co_56 cm_Co_takeFigure st_Co_takeFigure (Nat.le_of_ble_eq_true rfl) (Nat.le_of_ble_eq_true rfl) (c_Co_takeFig1 (ka := 11) (f := fpt) rfl hnp (by omega) hi1) ?_
      first | refine Run.if_eq_b d_Co_take_128 (fun c128 => ?_) (fun c128 => ?_) | refine Run.if_eq_n d_Co_take_128 (by omega) (fun c128 => ?_) (fun c128 => ?_) | refine Run.if_eq d_Co_take_128 (fun c128 => ?_) (fun c128 => ?_)
      · cases c128
      · refine Run.iconst (v := nI 5) d_Co_take_131 ic_5 ?_
        refine Run.goto d_Co_take_132 ?_
        refine Run.iret d_Co_take_136 rfl rfl ?_
        exact Or.inr ⟨(5, li, hk, updN pt np (b - 48), an, kd, hd, nh, np), (fhk, upd fpt np fg, fan, fkd, fhd, cl, nI nh, nI np), by rw [e0, if_pos hv], ⟨fun z => r1 (by omega), rfl, rfl, r4, fun i hi => by simp only [pk_un (show i ≠ np by omega), updN_n (show i ≠ np by omega)]; exact r5 i hi, fun z => by show upd _ np fg np = nI (updN _ np _ np); rw [pk_us, updN_s]; exact hfv, fun z => by omega, fun z => by omega⟩, rfl, rfl⟩
    · have hi1 : inB fg 5 = false := by rw [hin 5 (by omega)]; exact decide_eq_false hv
      refine Run.aload_n d_Co_take_115 rfl ?_
      refine Run.getf d_Co_take_116 fl_Co_15 (by first | rfl | assumption) (by rfl) ?_
      refine Run.aload_n d_Co_take_119 rfl ?_
      refine Run.getf d_Co_take_120 fl_Co_35 (by first | rfl | assumption) (by rfl) ?_
      refine Run.iload_n d_Co_take_123 rfl ?_
      refine Run.iconst (v := nI 5) d_Co_take_124 ic_5 ?_
      refine Run.S4r d_Co_take_125 lk_Co_56 cm_Co_takeFigure st_Co_takeFigure (Nat.le_of_ble_eq_true rfl) (Nat.le_of_ble_eq_true rfl) (c_Co_takeFig0 (ka := 11) (f := fpt) rfl hnp (by omega) hi1) ?_
      first | refine Run.if_eq_b d_Co_take_128 (fun c128 => ?_) (fun c128 => ?_) | refine Run.if_eq_n d_Co_take_128 (by omega) (fun c128 => ?_) (fun c128 => ?_) | refine Run.if_eq d_Co_take_128 (fun c128 => ?_) (fun c128 => ?_)
      · refine Run.iconst (v := -1) d_Co_take_135 ic_m1 ?_
        refine Run.iret d_Co_take_136 rfl rfl ?_
        exact Or.inl ⟨by rw [e0, if_neg hv], rfl, _, rfl⟩
      · cases c128
  · have e0 : psS (5, li, hk, pt, an, kd, hd, nh, np) b = if 48 ≤ b ∧ b < 48 + 8 then some (6, li, hk, pt, updN an np (b - 48), kd, hd, nh, np) else none := rfl
    have hnp := (a6 (by omega)).1
    refine Run.iload_n d_Co_take_0 rfl ?_
    refine Run.bipush (v := nI 48) d_Co_take_1 bp_48 ?_
    refine Run.isub d_Co_take_3 ?_
    rw [hfig]
    refine Run.istore_n d_Co_take_4 rfl rfl ?_
    show Run _ _ _ _ _ _ [_, _, _, _] _ _ _
    refine Run.iload_n d_Co_take_5 rfl ?_
    refine Run.tswIn (off := 131) (tgt := 137) d_Co_take_6 (by decide +kernel) (by decide +kernel) (by decide +kernel) rfl ?_
    by_cases hv : 48 ≤ b ∧ b < 48 + 8
    · have hi1 : inB fg 8 = true := by rw [hin 8 (by omega)]; exact decide_eq_true hv
      have hfv := hval hv.1
      refine Run.aload_n d_Co_take_137 rfl ?_
      refine Run.getf d_Co_take_138 fl_Co_18 (by first | rfl | assumption) (by rfl) ?_
      refine Run.aload_n d_Co_take_141 rfl ?_
      refine Run.getf d_Co_take_142 fl_Co_35 (by first | rfl | assumption) (by rfl) ?_
      refine Run.iload_n d_Co_take_145 rfl ?_
      refine Run.bipush (v := nI 8) d_Co_take_146 bp_8 ?_
      refine Run.S4r d_Co_take_148 lk_Co_56 cm_Co_takeFigure st_Co_takeFigure (Nat.le_of_ble_eq_true rfl) (Nat.le_of_ble_eq_true rfl) (c_Co_takeFig1 (ka := 12) (f := fan) rfl hnp (by omega) hi1) ?_
      first | refine Run.if_eq_b d_Co_take_151 (fun c151 => ?_) (fun c151 => ?_) | refine Run.if_eq_n d_Co_take_151 (by omega) (fun c151 => ?_) (fun c151 => ?_) | refine Run.if_eq d_Co_take_151 (fun c151 => ?_) (fun c151 => ?_)
      · cases c151
      · refine Run.bipush (v := nI 6) d_Co_take_154 bp_6 ?_
        refine Run.goto d_Co_take_156 ?_
        refine Run.iret d_Co_take_160 rfl rfl ?_
        exact Or.inr ⟨(6, li, hk, pt, updN an np (b - 48), kd, hd, nh, np), (fhk, fpt, upd fan np fg, fkd, fhd, cl, nI nh, nI np), by rw [e0, if_pos hv], ⟨fun z => r1 (by omega), rfl, rfl, r4, fun i hi => by simp only [pk_un (show i ≠ np by omega), updN_n (show i ≠ np by omega)]; exact r5 i hi, fun z => r6 (by omega), fun z => by show upd _ np fg np = nI (updN _ np _ np); rw [pk_us, updN_s]; exact hfv, fun z => by omega⟩, rfl, rfl⟩
    · have hi1 : inB fg 8 = false := by rw [hin 8 (by omega)]; exact decide_eq_false hv
      refine Run.aload_n d_Co_take_137 rfl ?_
      refine Run.getf d_Co_take_138 fl_Co_18 (by first | rfl | assumption) (by rfl) ?_
      refine Run.aload_n d_Co_take_141 rfl ?_
      refine Run.getf d_Co_take_142 fl_Co_35 (by first | rfl | assumption) (by rfl) ?_
      refine Run.iload_n d_Co_take_145 rfl ?_
      refine Run.bipush (v := nI 8) d_Co_take_146 bp_8 ?_
      refine Run.S4r d_Co_take_148 lk_Co_56 cm_Co_takeFigure st_Co_takeFigure (Nat.le_of_ble_eq_true rfl) (Nat.le_of_ble_eq_true rfl) (c_Co_takeFig0 (ka := 12) (f := fan) rfl hnp (by omega) hi1) ?_
      first | refine Run.if_eq_b d_Co_take_151 (fun c151 => ?_) (fun c151 => ?_) | refine Run.if_eq_n d_Co_take_151 (by omega) (fun c151 => ?_) (fun c151 => ?_) | refine Run.if_eq d_Co_take_151 (fun c151 => ?_) (fun c151 => ?_)
      · refine Run.iconst (v := -1) d_Co_take_159 ic_m1 ?_
        refine Run.iret d_Co_take_160 rfl rfl ?_
        exact Or.inl ⟨by rw [e0, if_neg hv], rfl, _, rfl⟩
      · cases c151
  · have e0 : psS (6, li, hk, pt, an, kd, hd, nh, np) b = if 48 ≤ b ∧ b < 48 + 4 then some (7, li, hk, pt, an, updN kd np (b - 48), hd, nh, np) else none := rfl
    have hnp := (a6 (by omega)).1
    refine Run.iload_n d_Co_take_0 rfl ?_
    refine Run.bipush (v := nI 48) d_Co_take_1 bp_48 ?_
    refine Run.isub d_Co_take_3 ?_
    rw [hfig]
    refine Run.istore_n d_Co_take_4 rfl rfl ?_
    show Run _ _ _ _ _ _ [_, _, _, _] _ _ _
    refine Run.iload_n d_Co_take_5 rfl ?_
    refine Run.tswIn (off := 155) (tgt := 161) d_Co_take_6 (by decide +kernel) (by decide +kernel) (by decide +kernel) rfl ?_
    by_cases hv : 48 ≤ b ∧ b < 48 + 4
    · have hi1 : inB fg 4 = true := by rw [hin 4 (by omega)]; exact decide_eq_true hv
      have hfv := hval hv.1
      refine Run.aload_n d_Co_take_161 rfl ?_
      refine Run.getf d_Co_take_162 fl_Co_21 (by first | rfl | assumption) (by rfl) ?_
      refine Run.aload_n d_Co_take_165 rfl ?_
      refine Run.getf d_Co_take_166 fl_Co_35 (by first | rfl | assumption) (by rfl) ?_
      refine Run.iload_n d_Co_take_169 rfl ?_
      refine Run.iconst (v := nI 4) d_Co_take_170 ic_4 ?_
      refine Run.S4r d_Co_take_171 lk_Co_56 cm_Co_takeFigure st_Co_takeFigure (Nat.le_of_ble_eq_true rfl) (Nat.le_of_ble_eq_true rfl) (c_Co_takeFig1 (ka := 13) (f := fkd) rfl hnp (by omega) hi1) ?_
      first | refine Run.if_eq_b d_Co_take_174 (fun c174 => ?_) (fun c174 => ?_) | refine Run.if_eq_n d_Co_take_174 (by omega) (fun c174 => ?_) (fun c174 => ?_) | refine Run.if_eq d_Co_take_174 (fun c174 => ?_) (fun c174 => ?_)
      · cases c174
      · refine Run.bipush (v := nI 7) d_Co_take_177 bp_7 ?_
        refine Run.goto d_Co_take_179 ?_
        refine Run.iret d_Co_take_183 rfl rfl ?_
        exact Or.inr ⟨(7, li, hk, pt, an, updN kd np (b - 48), hd, nh, np), (fhk, fpt, fan, upd fkd np fg, fhd, cl, nI nh, nI np), by rw [e0, if_pos hv], ⟨fun z => r1 (by omega), rfl, rfl, r4, fun i hi => by simp only [pk_un (show i ≠ np by omega), updN_n (show i ≠ np by omega)]; exact r5 i hi, fun z => r6 (by omega), fun z => r7 (by omega), fun z => by show upd _ np fg np = nI (updN _ np _ np); rw [pk_us, updN_s]; exact hfv⟩, rfl, rfl⟩
    · have hi1 : inB fg 4 = false := by rw [hin 4 (by omega)]; exact decide_eq_false hv
      refine Run.aload_n d_Co_take_161 rfl ?_
      refine Run.getf d_Co_take_162 fl_Co_21 (by first | rfl | assumption) (by rfl) ?_
      refine Run.aload_n d_Co_take_165 rfl ?_
      refine Run.getf d_Co_take_166 fl_Co_35 (by first | rfl | assumption) (by rfl) ?_
      refine Run.iload_n d_Co_take_169 rfl ?_
      refine Run.iconst (v := nI 4) d_Co_take_170 ic_4 ?_
      refine Run.S4r d_Co_take_171 lk_Co_56 cm_Co_takeFigure st_Co_takeFigure (Nat.le_of_ble_eq_true rfl) (Nat.le_of_ble_eq_true rfl) (c_Co_takeFig0 (ka := 13) (f := fkd) rfl hnp (by omega) hi1) ?_
      first | refine Run.if_eq_b d_Co_take_174 (fun c174 => ?_) (fun c174 => ?_) | refine Run.if_eq_n d_Co_take_174 (by omega) (fun c174 => ?_) (fun c174 => ?_) | refine Run.if_eq d_Co_take_174 (fun c174 => ?_) (fun c174 => ?_)
      · refine Run.iconst (v := -1) d_Co_take_182 ic_m1 ?_
        refine Run.iret d_Co_take_183 rfl rfl ?_
        exact Or.inl ⟨by rw [e0, if_neg hv], rfl, _, rfl⟩
      · cases c174
  · have e0 : psS (7, li, hk, pt, an, kd, hd, nh, np) b = if 48 ≤ b ∧ b < 48 + nh then some (2, li, hk, pt, an, kd, updN hd np (b - 48), nh, np + 1) else none := rfl
    have hnp := (a6 (by omega)).1
    refine Run.iload_n d_Co_take_0 rfl ?_
    refine Run.bipush (v := nI 48) d_Co_take_1 bp_48 ?_
    refine Run.isub d_Co_take_3 ?_
    rw [hfig]
    refine Run.istore_n d_Co_take_4 rfl rfl ?_
    show Run _ _ _ _ _ _ [_, _, _, _] _ _ _
    refine Run.iload_n d_Co_take_5 rfl ?_
    refine Run.tswIn (off := 178) (tgt := 184) d_Co_take_6 (by decide +kernel) (by decide +kernel) (by decide +kernel) rfl ?_
    by_cases hv : 48 ≤ b ∧ b < 48 + nh
    · have hi1 : inB fg nh = true := by rw [hin nh (by omega)]; exact decide_eq_true hv
      have hfv := hval hv.1
      refine Run.aload_n d_Co_take_184 rfl ?_
      refine Run.getf d_Co_take_185 fl_Co_24 (by first | rfl | assumption) (by rfl) ?_
      refine Run.aload_n d_Co_take_188 rfl ?_
      refine Run.getf d_Co_take_189 fl_Co_35 (by first | rfl | assumption) (by rfl) ?_
      refine Run.iload_n d_Co_take_192 rfl ?_
      refine Run.aload_n d_Co_take_193 rfl ?_
      refine Run.getf d_Co_take_194 fl_Co_27 (by first | rfl | assumption) (by rfl) ?_
      refine Run.S4r d_Co_take_197 lk_Co_56 cm_Co_takeFigure st_Co_takeFigure (Nat.le_of_ble_eq_true rfl) (Nat.le_of_ble_eq_true rfl) (c_Co_takeFig1 (ka := 14) (f := fhd) rfl hnp (by omega) hi1) ?_
      refine run_hp (show _ = hX tx ca (fhk, fpt, fan, fkd, upd fhd np fg, cl, nI nh, nI np) 3 9 sd nw tr ac tu gi mo dn ch s0 s1 ++ t from rfl) ?_
      first | refine Run.if_eq_b d_Co_take_200 (fun c200 => ?_) (fun c200 => ?_) | refine Run.if_eq_n d_Co_take_200 (by omega) (fun c200 => ?_) (fun c200 => ?_) | refine Run.if_eq d_Co_take_200 (fun c200 => ?_) (fun c200 => ?_)
      · cases c200
      · refine Run.aload_n d_Co_take_203 rfl ?_
        refine Run.V0r d_Co_take_204 lk_Co_64 cm_Co_endPiece iv_Co_endPiece rfl (by first | rfl | assumption) (Nat.le_of_ble_eq_true rfl) (Nat.le_of_ble_eq_true rfl) (q_endPB) ?_
        refine Run.goto d_Co_take_207 ?_
        refine Run.iret d_Co_take_211 rfl rfl ?_
        refine Or.inr ⟨(2, li, hk, pt, an, kd, updN hd np (b - 48), nh, np + 1), (fhk, fpt, fan, fkd, upd fhd np fg, cl, nI nh, nI (np + 1)), by rw [e0, if_pos hv], ⟨fun z => r1 (by omega), rfl, rfl, r4, fun i hi => ?_, fun z => by omega, fun z => by omega, fun z => by omega⟩, rfl, rfl⟩
        show fpt i = nI (pt i) ∧ fan i = nI (an i) ∧ fkd i = nI (kd i) ∧ upd fhd np fg i = nI (updN hd np (b - 48) i)
        by_cases e : i = np
        · subst e
          rw [pk_us, updN_s]
          exact ⟨r6 (by omega), r7 (by omega), r8 (by omega), hfv⟩
        · rw [pk_un e, updN_n e]
          exact r5 i (by omega)
    · have hi1 : inB fg nh = false := by rw [hin nh (by omega)]; exact decide_eq_false hv
      refine Run.aload_n d_Co_take_184 rfl ?_
      refine Run.getf d_Co_take_185 fl_Co_24 (by first | rfl | assumption) (by rfl) ?_
      refine Run.aload_n d_Co_take_188 rfl ?_
      refine Run.getf d_Co_take_189 fl_Co_35 (by first | rfl | assumption) (by rfl) ?_
      refine Run.iload_n d_Co_take_192 rfl ?_
      refine Run.aload_n d_Co_take_193 rfl ?_
      refine Run.getf d_Co_take_194 fl_Co_27 (by first | rfl | assumption) (by rfl) ?_
      refine Run.S4r d_Co_take_197 lk_Co_56 cm_Co_takeFigure st_Co_takeFigure (Nat.le_of_ble_eq_true rfl) (Nat.le_of_ble_eq_true rfl) (c_Co_takeFig0 (ka := 14) (f := fhd) rfl hnp (by omega) hi1) ?_
      first | refine Run.if_eq_b d_Co_take_200 (fun c200 => ?_) (fun c200 => ?_) | refine Run.if_eq_n d_Co_take_200 (by omega) (fun c200 => ?_) (fun c200 => ?_) | refine Run.if_eq d_Co_take_200 (fun c200 => ?_) (fun c200 => ?_)
      · refine Run.iconst (v := -1) d_Co_take_210 ic_m1 ?_
        refine Run.iret d_Co_take_211 rfl rfl ?_
        exact Or.inl ⟨by rw [e0, if_neg hv], rfl, _, rfl⟩
      · cases c200
theorem q_Te_readB {n : Nat} {f : FI} {bt : Nat → Nat} {cs : CoS} (hn : n ≤ 48) (hf : ∀ k, k < n → f k = nI (bt k) ∧ bt k < 256) (htx : tx = (f, nI n)) : Call X (d + 3) 0 0 M_Te_readInto [.ref 2, .ref 10] (hX tx ca cs 3 9 sd nw tr ac tu gi mo dn ch s0 s1 ++ t) (fun r h2 => r = some (.int (fltR bt n)) ∧ ∃ cs2, h2 = hX tx ca cs2 3 9 sd nw tr ac tu gi mo dn ch s0 s1 ++ t ∧ ∀ q, psI bt n = some q → PsR q cs2) := by
  subst htx
  show Run X (d + 3) 0 0 M_Te_readInto 0 [some (.ref 2), some (.ref 10), none, none] [] _ _
  obtain ⟨fhk, fpt, fan, fkd, fhd, cl, cnh, cnp⟩ := cs
  have key : Run X (d + 3) 0 0 M_Te_readInto 8 [some (.ref 2), some (.ref 10), some (.int (nI 0)), some (.int (nI 0))] [] (hX (f, nI n) ca (fhk, fpt, fan, fkd, fhd, nI 0, nI 0, nI 0) 3 9 sd nw tr ac tu gi mo dn ch s0 s1 ++ t) (fun r h2 => r = some (.int (fltR bt n)) ∧ ∃ cs2, h2 = hX (f, nI n) ca cs2 3 9 sd nw tr ac tu gi mo dn ch s0 s1 ++ t ∧ ∀ q, psI bt n = some q → PsR q cs2) := by
    refine upto n (fun k => ∀ (q : PS) (cs2 : CoS), psI bt k = some q → PsR q cs2 → Run X (d + 3) 0 0 M_Te_readInto 8 [some (.ref 2), some (.ref 10), some (.int (nI q.1)), some (.int (nI k))] [] (hX (f, nI n) ca cs2 3 9 sd nw tr ac tu gi mo dn ch s0 s1 ++ t) (fun r h2 => r = some (.int (fltR bt n)) ∧ ∃ cs2, h2 = hX (f, nI n) ca cs2 3 9 sd nw tr ac tu gi mo dn ch s0 s1 ++ t ∧ ∀ q, psI bt n = some q → PsR q cs2)) ?_ 0 (Nat.zero_le _) ps0 _ rfl ⟨fun z => rfl, rfl, rfl, fun j hj => by omega, fun i hi => by omega, fun z => by omega, fun z => by omega, fun z => by omega⟩
    intro k hk ih q cs2 hq hr
    have hqk := psI_ok hq
    have hq7 : q.1 ≤ 7 := hqk.1
    have hA : k < n → psS q (bt k) = none → ∀ cs3, Run X (d + 3) 0 0 M_Te_readInto 27 [some (.ref 2), some (.ref 10), some (.int (nI q.1)), some (.int (nI k))] [.int (-1)] (hX (f, nI n) ca cs3 3 9 sd nw tr ac tu gi mo dn ch s0 s1 ++ t) (fun r h2 => r = some (.int (fltR bt n)) ∧ ∃ cs2, h2 = hX (f, nI n) ca cs2 3 9 sd nw tr ac tu gi mo dn ch s0 s1 ++ t ∧ ∀ q, psI bt n = some q → PsR q cs2) := by
      intro hlt hN cs3
      have hnone : psI bt (k + 1) = none := by rw [psI_s hq]; exact hN
      refine Run.istore_n d_Te_readInto_27 rfl rfl ?_
      show Run _ _ _ _ _ _ [_, _, _, _] _ _ _
      refine Run.iload_n d_Te_readInto_28 rfl ?_
      refine Run.iconst (v := -1) d_Te_readInto_29 ic_m1 ?_
      first | refine Run.icmp_ne_n d_Te_readInto_30 (by omega) (by omega) (fun c30 => ?_) (fun c30 => ?_) | refine Run.icmp_ne d_Te_readInto_30 (fun c30 => ?_) (fun c30 => ?_)
      · exact absurd rfl c30
      · refine Run.iload_n d_Te_readInto_33 rfl ?_
        refine Run.iret d_Te_readInto_34 rfl rfl ?_
        refine ⟨by rw [flt_bad hq hN hlt], cs3, rfl, fun q2 hq2 => ?_⟩
        exfalso
        have up : ∀ m, k + 1 ≤ m → psI bt m = none := by
          intro m hm
          induction m with
          | zero => omega
          | succ m ihm =>
            by_cases e : k + 1 = m + 1
            · rw [← e]; exact hnone
            · cases hm2 : psI bt (m + 1) with
              | none => rfl
              | some q5 =>
                obtain ⟨q6, h6⟩ := psI_p hm2
                rw [ihm (by omega)] at h6
                cases h6
        rw [up n (by omega)] at hq2
        cases hq2
    have hB : k < n → ∀ q2 cs3, psS q (bt k) = some q2 → PsR q2 cs3 → Run X (d + 3) 0 0 M_Te_readInto 27 [some (.ref 2), some (.ref 10), some (.int (nI q.1)), some (.int (nI k))] [.int (nI q2.1)] (hX (f, nI n) ca cs3 3 9 sd nw tr ac tu gi mo dn ch s0 s1 ++ t) (fun r h2 => r = some (.int (fltR bt n)) ∧ ∃ cs2, h2 = hX (f, nI n) ca cs2 3 9 sd nw tr ac tu gi mo dn ch s0 s1 ++ t ∧ ∀ q, psI bt n = some q → PsR q cs2) := by
      intro hlt q2 cs3 hS hr2
      have hq2 : psI bt (k + 1) = some q2 := by rw [psI_s hq]; exact hS
      have h27 : q2.1 ≤ 7 := (psI_ok hq2).1
      refine Run.istore_n d_Te_readInto_27 rfl rfl ?_
      show Run _ _ _ _ _ _ [_, _, _, _] _ _ _
      refine Run.iload_n d_Te_readInto_28 rfl ?_
      refine Run.iconst (v := -1) d_Te_readInto_29 ic_m1 ?_
      first | refine Run.icmp_ne_n d_Te_readInto_30 (by omega) (by omega) (fun c30 => ?_) (fun c30 => ?_) | refine Run.icmp_ne d_Te_readInto_30 (fun c30 => ?_) (fun c30 => ?_)
      · first | refine Run.iinc_n d_Te_readInto_35 ic_1 rfl rfl ?_ | refine Run.iinc d_Te_readInto_35 rfl rfl rfl ?_
        show Run _ _ _ _ _ _ [_, _, _, _] _ _ _
        refine Run.goto d_Te_readInto_38 ?_
        exact ih hlt q2 cs3 hq2 hr2
      · exact absurd c30 (fun z => by have := nI_pos' (n := q2.1) (by omega); rw [z] at this; exact absurd this (by decide))
    refine Run.iload_n d_Te_readInto_8 rfl ?_
    refine Run.aload_n d_Te_readInto_9 rfl ?_
    refine Run.getf d_Te_readInto_10 fl_Te_15 (by first | rfl | assumption) (by rfl) ?_
    first | refine Run.icmp_ge_n d_Te_readInto_13 (by omega) (by omega) (fun c13 => ?_) (fun c13 => ?_) | refine Run.icmp_ge d_Te_readInto_13 (fun c13 => ?_) (fun c13 => ?_)
    · have e8 : k = n := by omega
      subst e8
      have hfe := flt_end hq
      refine Run.iload_n d_Te_readInto_41 rfl ?_
      refine Run.iconst (v := nI 2) d_Te_readInto_42 ic_2 ?_
      first | refine Run.icmp_ne_n d_Te_readInto_43 (by omega) (by omega) (fun c43 => ?_) (fun c43 => ?_) | refine Run.icmp_ne d_Te_readInto_43 (fun c43 => ?_) (fun c43 => ?_)
      · refine Run.aload_n d_Te_readInto_51 rfl ?_
        refine Run.getf d_Te_readInto_52 fl_Te_15 (by first | rfl | assumption) (by rfl) ?_
        refine Run.iret d_Te_readInto_55 rfl rfl ?_
        refine ⟨?_, cs2, rfl, fun q2 hq2 => by rw [hq] at hq2; cases hq2; exact hr⟩
        first
          | (rw [hfe, if_pos c43]; done)
          | (rw [hfe, if_neg c43]; done)
      · refine Run.bipush (v := -9) d_Te_readInto_46 bp_m9 ?_
        refine Run.goto d_Te_readInto_48 ?_
        refine Run.iret d_Te_readInto_55 rfl rfl ?_
        refine ⟨?_, cs2, rfl, fun q2 hq2 => by rw [hq] at hq2; cases hq2; exact hr⟩
        first
          | (rw [hfe, if_pos c43]; done)
          | (rw [hfe, if_neg c43]; done)
    · refine Run.aload_n d_Te_readInto_16 rfl ?_
      refine Run.iload_n d_Te_readInto_17 rfl ?_
      refine Run.aload_n d_Te_readInto_18 rfl ?_
      refine Run.getf d_Te_readInto_19 fl_Te_9 (by first | rfl | assumption) (by rfl) ?_
      refine Run.iload_n d_Te_readInto_22 rfl ?_
      refine Run.iald_n d_Te_readInto_23 (by first | rfl | assumption) (by omega) (by omega) ?_
      rw [show (f, nI n).1 k = nI (bt k) from (hf k c13).1]
      refine Run.V2 d_Te_readInto_24 lk_Te_24 cm_Co_take iv_Co_take rfl (by first | rfl | assumption) (Nat.le_of_ble_eq_true rfl) (Nat.le_of_ble_eq_true rfl) (q_Co_takeB (tx := (f, nI n)) (hf k c13).2 hqk hr) (fun r24 h24 q24 => ?_)
      rcases q24 with ⟨hN, rfl, cs3, rfl⟩ | ⟨q2, cs3, hS, hr2, rfl, rfl⟩
      · exact hA c13 hN cs3
      · exact hB c13 q2 cs3 hS hr2
  refine Run.aload_n d_Te_readInto_0 rfl ?_
  refine Run.V0v d_Te_readInto_1 lk_Te_19 cm_Co_clear iv_Co_clear rfl (by first | rfl | assumption) (Nat.le_of_ble_eq_true rfl) (Nat.le_of_ble_eq_true rfl) (q_clearB) ?_
  refine Run.iconst (v := nI 0) d_Te_readInto_4 ic_0 ?_
  refine Run.istore_n d_Te_readInto_5 rfl rfl ?_
  show Run _ _ _ _ _ _ [_, _, _, _] _ _ _
  refine Run.iconst (v := nI 0) d_Te_readInto_6 ic_0 ?_
  refine Run.istore_n d_Te_readInto_7 rfl rfl ?_
  show Run _ _ _ _ _ _ [_, _, _, _] _ _ _
  exact key
end PARSE
