/-! ===== the unknown piece (the class) ===== -/
/-- what a plain one sees of a piece at an angle; 5: nothing -/
def ans3 (p o k g : Nat) : Nat := if showN p o k 0 g = true then p else 5
def ansN (m g : Nat) : Nat := ans3 (m / 32) (m / 4 % 8) (m % 4) g
def fitF (ta tv : Nat → Nat) (p o k : Nat) : Nat → Bool → Bool := fun j b => b && decide (ans3 p o k (ta j) = tv j)
def fit3 (ta tv : Nat → Nat) (nt p o k : Nat) : Bool := itN (fitF ta tv p o k) true nt
def fitN (ta tv : Nat → Nat) (nt m : Nat) : Bool := fit3 ta tv nt (m / 32) (m / 4 % 8) (m % 4)
def cntU (F : Nat → Bool) : Nat → Nat := itN (fun m acc => if F m = true then acc + 1 else acc) 0
def alU (F : Nat → Bool) (g a : Nat) : Nat → Nat := itN (fun m acc => if F m = true ∧ ansN m g = a then acc + 1 else acc) 0
def cod (m : Nat) : Nat := 100 * (m / 32) + 10 * (m / 4 % 8) + m % 4
def firU (F : Nat → Bool) (m : Nat) : Int32 := oI ((fstN F m).map cod)
theorem cntU_s (F : Nat → Bool) (m : Nat) : cntU F (m + 1) = if F m = true then cntU F m + 1 else cntU F m := rfl
theorem alU_s (F : Nat → Bool) (g a m : Nat) : alU F g a (m + 1) = if F m = true ∧ ansN m g = a then alU F g a m + 1 else alU F g a m := rfl
theorem cntU_le (F : Nat → Bool) (m : Nat) : cntU F m ≤ m := by
  induction m with
  | zero => exact Nat.le_refl _
  | succ m ih => rw [cntU_s]; split <;> omega
theorem alU_le (F : Nat → Bool) (g a m : Nat) : alU F g a m ≤ cntU F m := by
  induction m with
  | zero => exact Nat.le_refl _
  | succ m ih =>
    rw [alU_s, cntU_s]
    by_cases h : F m = true
    · by_cases h2 : ansN m g = a <;> simp [h, h2] <;> omega
    · simp [h]; omega
theorem ans3_lt {p o k g : Nat} (hp : p < 5) : ans3 p o k g < 6 := by unfold ans3; split <;> omega
theorem cnt0 {F : Nat → Bool} {m : Nat} : cntU F m = 0 ↔ fstN F m = none := by
  induction m with
  | zero => simp [cntU, itN, fstN]
  | succ m ih =>
    rw [cntU_s]
    by_cases h : F m = true
    · simp only [h, if_true, fstN]
      constructor
      · intro q; omega
      · intro q
        cases hf : fstN F m with
        | none => rw [hf] at q; cases q
        | some a => rw [hf] at q; cases q
    · simp only [h, if_false, fstN, Bool.false_eq_true]
      rw [ih]
      cases hf : fstN F m with
      | none => simp
      | some a => simp
theorem fir_s (F : Nat → Bool) (m : Nat) : firU F (m + 1) = if F m = true ∧ cntU F m = 0 then nI (cod m) else firU F m := by
  unfold firU
  simp only [fstN]
  cases hf : fstN F m with
  | none =>
    have h0 := cnt0.mpr hf
    by_cases h : F m = true
    · simp [h, h0, oI]
    · simp [h]
  | some a =>
    have h0 : ¬ cntU F m = 0 := fun q => by have := cnt0.mp q; rw [hf] at this; cases this
    simp [h0]
/-- the rows of a weighing, up to m -/
def wgI (F : Nat → Bool) (al : FI) (m : Nat) : Prop := ∀ g a, g < 8 → a < 6 → al (6 * g + a) = nI (alU F g a m)
/-- the largest of six -/
def mx6 (f : Nat → Nat) : Nat := itN (fun a acc => if acc < f a then f a else acc) 0 6
def nxtF (G : Nat → Nat) : Nat → Option (Nat × Nat) → Option (Nat × Nat) := fun g acc => if 0 < G g then (match acc with
  | none => some (g, G g)
  | some (b, l) => if G g < l then some (g, G g) else some (b, l)) else acc
def nxtN (G : Nat → Nat) : Option Nat := (itN (nxtF G) none 8).map (fun q => q.1)
def grtN (F : Nat → Bool) (g : Nat) : Nat := mx6 (fun a => alU F g a 160)
theorem mx6_ge {f : Nat → Nat} : ∀ n a, a < n → f a ≤ itN (fun a acc => if acc < f a then f a else acc) 0 n := by
  intro n
  induction n with
  | zero => intro a ha; omega
  | succ n ih =>
    intro a ha
    show f a ≤ (if _ < f n then f n else _)
    by_cases hn : a = n
    · subst hn; split <;> omega
    · have := ih a (by omega)
      split <;> omega
theorem mx6_le {f : Nat → Nat} {B : Nat} : ∀ n, (∀ a, a < n → f a ≤ B) → itN (fun a acc => if acc < f a then f a else acc) 0 n ≤ B := by
  intro n
  induction n with
  | zero => intro _; exact Nat.zero_le _
  | succ n ih =>
    intro h
    show (if _ < f n then f n else _) ≤ B
    have h1 := ih (fun a ha => h a (by omega))
    have h2 := h n (by omega)
    split <;> omega
theorem grt_le (F : Nat → Bool) (g : Nat) : grtN F g ≤ cntU F 160 := mx6_le 6 (fun a _ => alU_le F g a 160)
theorem al_pos {F : Nat → Bool} {g m : Nat} (hm : m ≤ 160) (h : 0 < cntU F m) : ∃ a, a < 6 ∧ 0 < alU F g a m := by
  induction m with
  | zero => simp [cntU, itN] at h
  | succ m ih =>
    rw [cntU_s] at h
    by_cases hF : F m = true
    · exact ⟨ansN m g, ans3_lt (by omega), by rw [alU_s, if_pos ⟨hF, rfl⟩]; omega⟩
    · rw [if_neg hF] at h
      obtain ⟨a, h1, h2⟩ := ih (by omega) h
      exact ⟨a, h1, by rw [alU_s, if_neg (fun q => hF q.1)]; exact h2⟩
theorem grt_pos {F : Nat → Bool} (g : Nat) (h : 0 < cntU F 160) : 0 < grtN F g := by
  obtain ⟨a, h1, h2⟩ := al_pos (g := g) (Nat.le_refl _) h
  exact Nat.lt_of_lt_of_le h2 (mx6_ge (f := fun a => alU F g a 160) 6 a h1)
theorem nxt_lt {G : Nat → Nat} : ∀ n b l, itN (nxtF G) none n = some (b, l) → b < n ∧ l = G b := by
  intro n
  induction n with
  | zero => intro b l h; cases h
  | succ n ih =>
    intro b l h
    have h' : nxtF G n (itN (nxtF G) none n) = some (b, l) := h
    revert h'
    cases hq : itN (nxtF G) none n with
    | none =>
      unfold nxtF
      split
      · intro q; cases q; exact ⟨by omega, rfl⟩
      · intro q; cases q
    | some z =>
      obtain ⟨b0, l0⟩ := z
      have hz := ih b0 l0 hq
      unfold nxtF
      split
      · dsimp only
        split
        · intro q; cases q; exact ⟨by omega, rfl⟩
        · intro q; cases q; exact ⟨by omega, hz.2⟩
      · intro q; cases q; exact ⟨by omega, hz.2⟩
section UNK
variable {X : Nat × (Nat → Int32)} {d : Nat} {t : AH} {tx : TxS} {ca cb : CoS} {kt kd : Nat} {sd : Int64} {nw tr s0 s1 : StS} {ac : AcS} {gi : GiS} {mo : MoS} {dn ch : FI} {fa fb al : FI} {z2 z3 z4 : Int32} {nt : Nat} {ta tv : Nat → Nat}
theorem c_Tu_answerOf {h : AH} {p o k g : Nat} (hp : p < 5) (ho : o < 8) (hk : k < 4) (hg : g < 8) : Call X (d + 3) 0 0 M_Tu_answerOf [.int (nI p), .int (nI o), .int (nI k), .int (nI g)] h (Ret (.int (nI (ans3 p o k g))) h) := by
  show Run X (d + 3) 0 0 M_Tu_answerOf 0 [some (.int (nI p)), some (.int (nI o)), some (.int (nI k)), some (.int (nI g))] [] h _
  refine Run.iload_n d_Tu_answerOf_0 rfl ?_
  refine Run.iload_n d_Tu_answerOf_1 rfl ?_
  refine Run.iload_n d_Tu_answerOf_2 rfl ?_
  refine Run.iconst (v := nI 0) d_Tu_answerOf_3 ic_0 ?_
  refine Run.iload_n d_Tu_answerOf_4 rfl ?_
  refine Run.S5r d_Tu_answerOf_5 lk_Tu_25 cm_PM_isShown st_PM_isShown (Nat.le_of_ble_eq_true rfl) (Nat.le_of_ble_eq_true rfl) (c_PM_isShown hp ho hk (by omega)) ?_
  rw [m8_nI, Nat.mod_eq_of_lt hg]
  first | refine Run.if_eq_b d_Tu_answerOf_8 (fun c8 => ?_) (fun c8 => ?_) | refine Run.if_eq_n d_Tu_answerOf_8 (by omega) (fun c8 => ?_) (fun c8 => ?_) | refine Run.if_eq d_Tu_answerOf_8 (fun c8 => ?_) (fun c8 => ?_)
  · refine Run.iconst (v := nI 5) d_Tu_answerOf_15 ic_5 ?_
    refine Run.iret d_Tu_answerOf_16 rfl rfl ?_
    exact ret_n (by simp [ans3, c8])
  · refine Run.iload_n d_Tu_answerOf_11 rfl ?_
    refine Run.goto d_Tu_answerOf_12 ?_
    refine Run.iret d_Tu_answerOf_16 rfl rfl ?_
    exact ret_n (by simp [ans3, c8])
theorem c_Tu_fits {p o k : Nat} (hnt : nt ≤ 6) (hta : ∀ j, j < nt → fa j = nI (ta j) ∧ ta j < 8) (htv : ∀ j, j < nt → fb j = nI (tv j) ∧ tv j < 6) (hp : p < 5) (ho : o < 8) (hk : k < 4) : Call X (d + 4) 0 0 M_Tu_fits [.ref 25, .int (nI p), .int (nI o), .int (nI k)] (hX tx ca cb kt kd sd nw tr ac (fa, fb, al, nI nt, z3, z4) gi mo dn ch s0 s1 ++ t) (Ret (.int (bI (fit3 ta tv nt p o k))) (hX tx ca cb kt kd sd nw tr ac (fa, fb, al, nI nt, z3, z4) gi mo dn ch s0 s1 ++ t)) := by
  show Run X (d + 4) 0 0 M_Tu_fits 0 [some (.ref 25), some (.int (nI p)), some (.int (nI o)), some (.int (nI k)), none] [] _ _
  have stay : ∀ j e, j ≤ e → itN (fitF ta tv p o k) true j = false → itN (fitF ta tv p o k) true e = false := by
    intro j e he h0
    induction e with
    | zero => rw [show j = 0 by omega] at h0; exact h0
    | succ e ih =>
      by_cases hj : j = e + 1
      · subst hj; exact h0
      · show fitF ta tv p o k e _ = false
        rw [ih (by omega)]
        rfl
  refine Run.iconst (v := nI 0) d_Tu_fits_0 ic_0 ?_
  refine Run.istore d_Tu_fits_1 rfl rfl ?_
  show Run _ _ _ _ _ _ [_, _, _, _, _] _ _ _
  refine upto nt (fun j => itN (fitF ta tv p o k) true j = true → Run X (d + 4) 0 0 M_Tu_fits 3 [some (.ref 25), some (.int (nI p)), some (.int (nI o)), some (.int (nI k)), some (.int (nI j))] [] (hX tx ca cb kt kd sd nw tr ac (fa, fb, al, nI nt, z3, z4) gi mo dn ch s0 s1 ++ t) (Ret (.int (bI (fit3 ta tv nt p o k))) (hX tx ca cb kt kd sd nw tr ac (fa, fb, al, nI nt, z3, z4) gi mo dn ch s0 s1 ++ t))) ?_ 0 (Nat.zero_le _) rfl
  intro j hj ih hI
  refine Run.iload d_Tu_fits_3 rfl ?_
  refine Run.aload_n d_Tu_fits_5 rfl ?_
  refine Run.getf d_Tu_fits_6 fl_Tu_21 (by first | rfl | assumption) (by rfl) ?_
  first | refine Run.icmp_ge_n d_Tu_fits_9 (by omega) (by omega) (fun c9 => ?_) (fun c9 => ?_) | refine Run.icmp_ge d_Tu_fits_9 (fun c9 => ?_) (fun c9 => ?_)
  · refine Run.iconst (v := nI 1) d_Tu_fits_43 ic_1 ?_
    refine Run.iret d_Tu_fits_44 rfl (by first | exact bI_nar _ | decide +kernel) ?_
    exact ret_t (by rw [fit3, show nt = j by omega]; exact hI)
  · refine Run.iload_n d_Tu_fits_12 rfl ?_
    refine Run.iload_n d_Tu_fits_13 rfl ?_
    refine Run.iload_n d_Tu_fits_14 rfl ?_
    refine Run.aload_n d_Tu_fits_15 rfl ?_
    refine Run.getf d_Tu_fits_16 fl_Tu_9 (by first | rfl | assumption) (by rfl) ?_
    refine Run.iload d_Tu_fits_19 rfl ?_
    refine Run.iald_n d_Tu_fits_21 (by first | rfl | assumption) (by omega) (by omega) ?_
    rw [show (fa, fb, al, nI nt, z3, z4).1 j = nI (ta j) from (hta j c9).1]
    have w1 := (hta j c9).2
    have w2 := (htv j c9).2
    refine Run.S4r d_Tu_fits_22 lk_Tu_29 cm_Tu_answerOf st_Tu_answerOf (Nat.le_of_ble_eq_true rfl) (Nat.le_of_ble_eq_true rfl) (c_Tu_answerOf hp ho hk (by omega)) ?_
    have w3 := ans3_lt (p := p) (o := o) (k := k) (g := ta j) hp
    refine Run.aload_n d_Tu_fits_25 rfl ?_
    refine Run.getf d_Tu_fits_26 fl_Tu_15 (by first | rfl | assumption) (by rfl) ?_
    refine Run.iload d_Tu_fits_29 rfl ?_
    refine Run.iald_n d_Tu_fits_31 (by first | rfl | assumption) (by omega) (by omega) ?_
    rw [show (fa, fb, al, nI nt, z3, z4).2.1 j = nI (tv j) from (htv j c9).1]
    first | refine Run.icmp_eq_n d_Tu_fits_32 (by omega) (by omega) (fun c32 => ?_) (fun c32 => ?_) | refine Run.icmp_eq d_Tu_fits_32 (fun c32 => ?_) (fun c32 => ?_)
    · first | refine Run.iinc_n d_Tu_fits_37 ic_1 rfl rfl ?_ | refine Run.iinc d_Tu_fits_37 rfl rfl rfl ?_
      show Run _ _ _ _ _ _ [_, _, _, _, _] _ _ _
      refine Run.goto d_Tu_fits_40 ?_
      exact ih c9 (by show fitF ta tv p o k j _ = true; rw [hI]; simp [fitF, c32])
    · refine Run.iconst (v := nI 0) d_Tu_fits_35 ic_0 ?_
      refine Run.iret d_Tu_fits_36 rfl (by first | exact bI_nar _ | decide +kernel) ?_
      exact ret_f (stay (j + 1) nt (by omega) (by show fitF ta tv p o k j _ = false; rw [hI]; simp [fitF, c32]))
theorem c_Tu_tally {F : Nat → Bool} {p o k m : Nat} (hp : p < 5) (ho : o < 8) (hk : k < 4) (hm : m = 32 * p + 4 * o + k) (hF : F m = true) (hal : wgI F al m) : Call X (d + 4) 0 0 M_Tu_tally [.ref 25, .int (nI p), .int (nI o), .int (nI k)] (hX tx ca cb kt kd sd nw tr ac (fa, fb, al, nI nt, (nI (cntU F m)), (firU F m)) gi mo dn ch s0 s1 ++ t) (fun r h2 => r = none ∧ ∃ al2, wgI F al2 (m + 1) ∧ h2 = hX tx ca cb kt kd sd nw tr ac (fa, fb, al2, nI nt, (nI (cntU F (m + 1))), (firU F (m + 1))) gi mo dn ch s0 s1 ++ t) := by
  show Run X (d + 4) 0 0 M_Tu_tally 0 [some (.ref 25), some (.int (nI p)), some (.int (nI o)), some (.int (nI k)), none] [] _ _
  have hc := cntU_le F m
  have e1 : m / 32 = p := by omega
  have e2 : m / 4 % 8 = o := by omega
  have e3 : m % 4 = k := by omega
  have ea : ∀ g, ansN m g = ans3 p o k g := fun g => by rw [ansN, e1, e2, e3]
  have ec : cod m = 100 * p + 10 * o + k := by rw [cod, e1, e2, e3]
  have c1 : cntU F (m + 1) = cntU F m + 1 := by rw [cntU_s, if_pos hF]
  have key : Run X (d + 4) 0 0 M_Tu_tally 35 [some (.ref 25), some (.int (nI p)), some (.int (nI o)), some (.int (nI k)), some (.int (nI 0))] [] (hX tx ca cb kt kd sd nw tr ac (fa, fb, al, nI nt, (nI (cntU F (m + 1))), (firU F (m + 1))) gi mo dn ch s0 s1 ++ t) (fun r h2 => r = none ∧ ∃ al2, wgI F al2 (m + 1) ∧ h2 = hX tx ca cb kt kd sd nw tr ac (fa, fb, al2, nI nt, (nI (cntU F (m + 1))), (firU F (m + 1))) gi mo dn ch s0 s1 ++ t) := by
    refine upto 8 (fun g => ∀ al2 : FI, (∀ g2 a, g2 < 8 → a < 6 → al2 (6 * g2 + a) = nI (if g2 < g then alU F g2 a (m + 1) else alU F g2 a m)) → Run X (d + 4) 0 0 M_Tu_tally 35 [some (.ref 25), some (.int (nI p)), some (.int (nI o)), some (.int (nI k)), some (.int (nI g))] [] (hX tx ca cb kt kd sd nw tr ac (fa, fb, al2, nI nt, (nI (cntU F (m + 1))), (firU F (m + 1))) gi mo dn ch s0 s1 ++ t) (fun r h2 => r = none ∧ ∃ al2, wgI F al2 (m + 1) ∧ h2 = hX tx ca cb kt kd sd nw tr ac (fa, fb, al2, nI nt, (nI (cntU F (m + 1))), (firU F (m + 1))) gi mo dn ch s0 s1 ++ t)) ?_ 0 (Nat.zero_le _) al (fun g2 a h1 h2 => by rw [if_neg (by omega)]; exact hal g2 a h1 h2)
    intro g hg ih al2 he
    have w1 := ans3_lt (p := p) (o := o) (k := k) (g := g) hp
    refine Run.iload d_Tu_tally_35 rfl ?_
    refine Run.bipush (v := nI 8) d_Tu_tally_37 bp_8 ?_
    first | refine Run.icmp_ge_n d_Tu_tally_39 (by omega) (by omega) (fun c39 => ?_) (fun c39 => ?_) | refine Run.icmp_ge d_Tu_tally_39 (fun c39 => ?_) (fun c39 => ?_)
    · refine Run.vret d_Tu_tally_71 rfl ?_
      exact ⟨rfl, al2, fun g2 a h1 h2 => by rw [he g2 a h1 h2, if_pos (by omega)], rfl⟩
    · refine Run.aload_n d_Tu_tally_42 rfl ?_
      refine Run.getf d_Tu_tally_43 fl_Tu_18 (by first | rfl | assumption) (by rfl) ?_
      refine Run.bipush (v := nI 6) d_Tu_tally_46 bp_6 ?_
      refine Run.iload d_Tu_tally_48 rfl ?_
      first | refine Run.imul_n d_Tu_tally_50 ?_ | refine Run.imul d_Tu_tally_50 ?_
      refine Run.iload_n d_Tu_tally_51 rfl ?_
      refine Run.iload_n d_Tu_tally_52 rfl ?_
      refine Run.iload_n d_Tu_tally_53 rfl ?_
      refine Run.iload d_Tu_tally_54 rfl ?_
      refine Run.S4r d_Tu_tally_56 lk_Tu_29 cm_Tu_answerOf st_Tu_answerOf (Nat.le_of_ble_eq_true rfl) (Nat.le_of_ble_eq_true rfl) (c_Tu_answerOf hp ho hk (by omega)) ?_
      first | refine Run.iadd_n d_Tu_tally_59 ?_ | refine Run.iadd d_Tu_tally_59 ?_
      refine Run.dup2 d_Tu_tally_60 rfl rfl ?_
      refine Run.iald_n d_Tu_tally_61 (by first | rfl | assumption) (by omega) (by omega) ?_
      rw [show (fa, fb, al2, nI nt, nI (cntU F (m + 1)), firU F (m + 1)).2.2.1 (6 * g + ans3 p o k g) = nI (alU F g (ans3 p o k g) m) from by rw [show (fa, fb, al2, nI nt, nI (cntU F (m + 1)), firU F (m + 1)).2.2.1 = al2 from rfl, he g _ c39 w1, if_neg (by omega)]]
      refine Run.iconst (v := nI 1) d_Tu_tally_62 ic_1 ?_
      first | refine Run.iadd_n d_Tu_tally_63 ?_ | refine Run.iadd d_Tu_tally_63 ?_
      refine Run.iast_n d_Tu_tally_64 (by first | rfl | assumption) (by omega) (by omega) ?_
      first | refine Run.iinc_n d_Tu_tally_65 ic_1 rfl rfl ?_ | refine Run.iinc d_Tu_tally_65 rfl rfl rfl ?_
      show Run _ _ _ _ _ _ [_, _, _, _, _] _ _ _
      refine Run.goto d_Tu_tally_68 ?_
      refine ih c39 (upd al2 (6 * g + ans3 p o k g) (nI (alU F g (ans3 p o k g) m + 1))) (fun g2 a h1 h2 => ?_)
      by_cases hq : 6 * g2 + a = 6 * g + ans3 p o k g
      · have h3 : g2 = g := by omega
        have h4 : a = ans3 p o k g := by omega
        subst h3
        subst h4
        rw [pk_us, if_pos (by omega), alU_s, if_pos ⟨hF, ea _⟩]
      · rw [pk_un hq, he g2 a h1 h2]
        by_cases h3 : g2 < g
        · rw [if_pos h3, if_pos (by omega)]
        · rw [if_neg h3]
          by_cases h4 : g2 = g
          · subst h4
            rw [if_pos (by omega), alU_s, if_neg (fun z => hq (by rw [← z.2, ea]))]
          · rw [if_neg (by omega)]
  refine Run.aload_n d_Tu_tally_0 rfl ?_
  refine Run.getf d_Tu_tally_1 fl_Tu_33 (by first | rfl | assumption) (by rfl) ?_
  first | refine Run.if_ne_b d_Tu_tally_4 (fun c4 => ?_) (fun c4 => ?_) | refine Run.if_ne_n d_Tu_tally_4 (by omega) (fun c4 => ?_) (fun c4 => ?_) | refine Run.if_ne d_Tu_tally_4 (fun c4 => ?_) (fun c4 => ?_)
  · refine Run.aload_n d_Tu_tally_22 rfl ?_
    refine Run.dup d_Tu_tally_23 rfl ?_
    refine Run.getf d_Tu_tally_24 fl_Tu_33 (by first | rfl | assumption) (by rfl) ?_
    refine Run.iconst (v := nI 1) d_Tu_tally_27 ic_1 ?_
    first | refine Run.iadd_n d_Tu_tally_28 ?_ | refine Run.iadd d_Tu_tally_28 ?_
    refine Run.putf d_Tu_tally_29 fl_Tu_33 (fun _ => rfl) (fun _ => rfl) (by first | rfl | assumption) (by exact Nat.le_of_ble_eq_true rfl) ?_
    refine Run.iconst (v := nI 0) d_Tu_tally_32 ic_0 ?_
    refine Run.istore d_Tu_tally_33 rfl rfl ?_
    show Run _ _ _ _ _ _ [_, _, _, _, _] _ _ _
    first
    | (refine run_hp ?_ key; rw [c1, fir_s, if_pos ⟨hF, c4⟩]; rfl)
    | (refine run_hp ?_ key; rw [c1, fir_s, if_neg (fun z => c4 z.2)]; rfl)
  · refine Run.aload_n d_Tu_tally_7 rfl ?_
    refine Run.bipush (v := nI 100) d_Tu_tally_8 bp_100 ?_
    refine Run.iload_n d_Tu_tally_10 rfl ?_
    first | refine Run.imul_n d_Tu_tally_11 ?_ | refine Run.imul d_Tu_tally_11 ?_
    refine Run.bipush (v := nI 10) d_Tu_tally_12 bp_10 ?_
    refine Run.iload_n d_Tu_tally_14 rfl ?_
    first | refine Run.imul_n d_Tu_tally_15 ?_ | refine Run.imul d_Tu_tally_15 ?_
    first | refine Run.iadd_n d_Tu_tally_16 ?_ | refine Run.iadd d_Tu_tally_16 ?_
    refine Run.iload_n d_Tu_tally_17 rfl ?_
    first | refine Run.iadd_n d_Tu_tally_18 ?_ | refine Run.iadd d_Tu_tally_18 ?_
    rw [← ec]
    refine Run.putf d_Tu_tally_19 fl_Tu_36 (fun _ => rfl) (fun _ => rfl) (by first | rfl | assumption) (by exact Nat.le_of_ble_eq_true rfl) ?_
    refine Run.aload_n d_Tu_tally_22 rfl ?_
    refine Run.dup d_Tu_tally_23 rfl ?_
    refine Run.getf d_Tu_tally_24 fl_Tu_33 (by first | rfl | assumption) (by rfl) ?_
    refine Run.iconst (v := nI 1) d_Tu_tally_27 ic_1 ?_
    first | refine Run.iadd_n d_Tu_tally_28 ?_ | refine Run.iadd d_Tu_tally_28 ?_
    refine Run.putf d_Tu_tally_29 fl_Tu_33 (fun _ => rfl) (fun _ => rfl) (by first | rfl | assumption) (by exact Nat.le_of_ble_eq_true rfl) ?_
    refine Run.iconst (v := nI 0) d_Tu_tally_32 ic_0 ?_
    refine Run.istore d_Tu_tally_33 rfl rfl ?_
    show Run _ _ _ _ _ _ [_, _, _, _, _] _ _ _
    first
    | (refine run_hp ?_ key; rw [c1, fir_s, if_pos ⟨hF, c4⟩]; rfl)
    | (refine run_hp ?_ key; rw [c1, fir_s, if_neg (fun z => c4 z.2)]; rfl)
theorem c_Tu_weigh {F : Nat → Bool} (hFd : F = fitN ta tv nt) (hnt : nt ≤ 6) (hta : ∀ j, j < nt → fa j = nI (ta j) ∧ ta j < 8) (htv : ∀ j, j < nt → fb j = nI (tv j) ∧ tv j < 6) : Call X (d + 5) 0 0 M_Tu_weigh [.ref 25] (hX tx ca cb kt kd sd nw tr ac (fa, fb, al, nI nt, z3, z4) gi mo dn ch s0 s1 ++ t) (fun r h2 => r = none ∧ ∃ al2, wgI F al2 160 ∧ h2 = hX tx ca cb kt kd sd nw tr ac (fa, fb, al2, nI nt, (nI (cntU F 160)), (firU F 160)) gi mo dn ch s0 s1 ++ t) := by
  show Run X (d + 5) 0 0 M_Tu_weigh 0 [some (.ref 25), none, none, none] [] _ _
  have hF3 : ∀ p o k, p < 5 → o < 8 → k < 4 → F (32 * p + 4 * o + k) = fit3 ta tv nt p o k := fun p o k h1 h2 h3 => by
    rw [hFd, fitN, show (32 * p + 4 * o + k) / 32 = p by omega, show (32 * p + 4 * o + k) / 4 % 8 = o by omega, show (32 * p + 4 * o + k) % 4 = k by omega]
  have k49 : ∀ p o, p < 5 → o < 8 → (∀ al2 v3, wgI F al2 (32 * p + 4 * o + 4) → Run X (d + 5) 0 0 M_Tu_weigh 77 [some (.ref 25), some (.int (nI p)), some (.int (nI o)), v3] [] (hX tx ca cb kt kd sd nw tr ac (fa, fb, al2, nI nt, (nI (cntU F (32 * p + 4 * o + 4))), (firU F (32 * p + 4 * o + 4))) gi mo dn ch s0 s1 ++ t) (fun r h2 => r = none ∧ ∃ al2, wgI F al2 160 ∧ h2 = hX tx ca cb kt kd sd nw tr ac (fa, fb, al2, nI nt, (nI (cntU F 160)), (firU F 160)) gi mo dn ch s0 s1 ++ t)) → ∀ al2, wgI F al2 (32 * p + 4 * o) → Run X (d + 5) 0 0 M_Tu_weigh 49 [some (.ref 25), some (.int (nI p)), some (.int (nI o)), some (.int (nI 0))] [] (hX tx ca cb kt kd sd nw tr ac (fa, fb, al2, nI nt, (nI (cntU F (32 * p + 4 * o))), (firU F (32 * p + 4 * o))) gi mo dn ch s0 s1 ++ t) (fun r h2 => r = none ∧ ∃ al2, wgI F al2 160 ∧ h2 = hX tx ca cb kt kd sd nw tr ac (fa, fb, al2, nI nt, (nI (cntU F 160)), (firU F 160)) gi mo dn ch s0 s1 ++ t) := by
    intro p o hp ho kk al2 hal2
    refine upto 4 (fun k => ∀ al2 : FI, wgI F al2 (32 * p + 4 * o + k) → Run X (d + 5) 0 0 M_Tu_weigh 49 [some (.ref 25), some (.int (nI p)), some (.int (nI o)), some (.int (nI k))] [] (hX tx ca cb kt kd sd nw tr ac (fa, fb, al2, nI nt, (nI (cntU F (32 * p + 4 * o + k))), (firU F (32 * p + 4 * o + k))) gi mo dn ch s0 s1 ++ t) (fun r h2 => r = none ∧ ∃ al2, wgI F al2 160 ∧ h2 = hX tx ca cb kt kd sd nw tr ac (fa, fb, al2, nI nt, (nI (cntU F 160)), (firU F 160)) gi mo dn ch s0 s1 ++ t)) ?_ 0 (Nat.zero_le _) al2 hal2
    intro k hk ih al2 he
    refine Run.iload_n d_Tu_weigh_49 rfl ?_
    refine Run.iconst (v := nI 4) d_Tu_weigh_50 ic_4 ?_
    first | refine Run.icmp_ge_n d_Tu_weigh_51 (by omega) (by omega) (fun c51 => ?_) (fun c51 => ?_) | refine Run.icmp_ge d_Tu_weigh_51 (fun c51 => ?_) (fun c51 => ?_)
    · have e4 : k = 4 := by omega
      subst e4
      exact kk al2 _ he
    · refine Run.aload_n d_Tu_weigh_54 rfl ?_
      refine Run.iload_n d_Tu_weigh_55 rfl ?_
      refine Run.iload_n d_Tu_weigh_56 rfl ?_
      refine Run.iload_n d_Tu_weigh_57 rfl ?_
      refine Run.V3r d_Tu_weigh_58 lk_Tu_39 cm_Tu_fits iv_Tu_fits rfl (by first | rfl | assumption) (Nat.le_of_ble_eq_true rfl) (Nat.le_of_ble_eq_true rfl) (c_Tu_fits hnt hta htv hp ho c51) ?_
      first | refine Run.if_eq_b d_Tu_weigh_61 (fun c61 => ?_) (fun c61 => ?_) | refine Run.if_eq_n d_Tu_weigh_61 (by omega) (fun c61 => ?_) (fun c61 => ?_) | refine Run.if_eq d_Tu_weigh_61 (fun c61 => ?_) (fun c61 => ?_)
      · first | refine Run.iinc_n d_Tu_weigh_71 ic_1 rfl rfl ?_ | refine Run.iinc d_Tu_weigh_71 rfl rfl rfl ?_
        show Run _ _ _ _ _ _ [_, _, _, _] _ _ _
        refine Run.goto d_Tu_weigh_74 ?_
        first
        | exact ih c51 al3 hal3
        | (have e5 : F (32 * p + 4 * o + k) = false := by rw [hF3 p o k hp ho c51]; exact c61
           have e6 : wgI F al2 (32 * p + 4 * o + (k + 1)) := fun g a h1 h2 => by
             rw [he g a h1 h2, show 32 * p + 4 * o + (k + 1) = 32 * p + 4 * o + k + 1 by omega, alU_s, if_neg (fun z => by rw [e5] at z; cases z.1)]
           have e7 := ih c51 al2 e6
           rw [show 32 * p + 4 * o + (k + 1) = 32 * p + 4 * o + k + 1 by omega, cntU_s, fir_s, e5, if_neg (by decide), if_neg (fun z => by cases z.1)] at e7
           exact e7)
      · refine Run.aload_n d_Tu_weigh_64 rfl ?_
        refine Run.iload_n d_Tu_weigh_65 rfl ?_
        refine Run.iload_n d_Tu_weigh_66 rfl ?_
        refine Run.iload_n d_Tu_weigh_67 rfl ?_
        refine Run.V3 d_Tu_weigh_68 lk_Tu_43 cm_Tu_tally iv_Tu_tally rfl (by first | rfl | assumption) (Nat.le_of_ble_eq_true rfl) (Nat.le_of_ble_eq_true rfl) (c_Tu_tally (F := F) (m := 32 * p + 4 * o + k) hp ho c51 rfl (by rw [hF3 p o k hp ho c51]; exact c61) he) (fun r68 h68 q68 => ?_)
        obtain ⟨rfl, al3, hal3, rfl⟩ := q68
        first | refine Run.iinc_n d_Tu_weigh_71 ic_1 rfl rfl ?_ | refine Run.iinc d_Tu_weigh_71 rfl rfl rfl ?_
        show Run _ _ _ _ _ _ [_, _, _, _] _ _ _
        refine Run.goto d_Tu_weigh_74 ?_
        first
        | exact ih c51 al3 hal3
        | (have e5 : F (32 * p + 4 * o + k) = false := by rw [hF3 p o k hp ho c51]; exact c61
           have e6 : wgI F al2 (32 * p + 4 * o + (k + 1)) := fun g a h1 h2 => by
             rw [he g a h1 h2, show 32 * p + 4 * o + (k + 1) = 32 * p + 4 * o + k + 1 by omega, alU_s, if_neg (fun z => by rw [e5] at z; cases z.1)]
           have e7 := ih c51 al2 e6
           rw [show 32 * p + 4 * o + (k + 1) = 32 * p + 4 * o + k + 1 by omega, cntU_s, fir_s, e5, if_neg (by decide), if_neg (fun z => by cases z.1)] at e7
           exact e7)
  have k41 : ∀ p, p < 5 → (∀ al2 v2 v3, wgI F al2 (32 * p + 32) → Run X (d + 5) 0 0 M_Tu_weigh 83 [some (.ref 25), some (.int (nI p)), v2, v3] [] (hX tx ca cb kt kd sd nw tr ac (fa, fb, al2, nI nt, (nI (cntU F (32 * p + 32))), (firU F (32 * p + 32))) gi mo dn ch s0 s1 ++ t) (fun r h2 => r = none ∧ ∃ al2, wgI F al2 160 ∧ h2 = hX tx ca cb kt kd sd nw tr ac (fa, fb, al2, nI nt, (nI (cntU F 160)), (firU F 160)) gi mo dn ch s0 s1 ++ t)) → ∀ al2 v3, wgI F al2 (32 * p) → Run X (d + 5) 0 0 M_Tu_weigh 41 [some (.ref 25), some (.int (nI p)), some (.int (nI 0)), v3] [] (hX tx ca cb kt kd sd nw tr ac (fa, fb, al2, nI nt, (nI (cntU F (32 * p))), (firU F (32 * p))) gi mo dn ch s0 s1 ++ t) (fun r h2 => r = none ∧ ∃ al2, wgI F al2 160 ∧ h2 = hX tx ca cb kt kd sd nw tr ac (fa, fb, al2, nI nt, (nI (cntU F 160)), (firU F 160)) gi mo dn ch s0 s1 ++ t) := by
    intro p hp kk al2 v3 hal2
    refine upto 8 (fun o => ∀ (al2 : FI) (v3 : Option Value), wgI F al2 (32 * p + 4 * o) → Run X (d + 5) 0 0 M_Tu_weigh 41 [some (.ref 25), some (.int (nI p)), some (.int (nI o)), v3] [] (hX tx ca cb kt kd sd nw tr ac (fa, fb, al2, nI nt, (nI (cntU F (32 * p + 4 * o))), (firU F (32 * p + 4 * o))) gi mo dn ch s0 s1 ++ t) (fun r h2 => r = none ∧ ∃ al2, wgI F al2 160 ∧ h2 = hX tx ca cb kt kd sd nw tr ac (fa, fb, al2, nI nt, (nI (cntU F 160)), (firU F 160)) gi mo dn ch s0 s1 ++ t)) ?_ 0 (Nat.zero_le _) al2 v3 hal2
    intro o ho ih al2 v3 he
    have h77 : o < 8 → ∀ al3 v3, wgI F al3 (32 * p + 4 * o + 4) → Run X (d + 5) 0 0 M_Tu_weigh 77 [some (.ref 25), some (.int (nI p)), some (.int (nI o)), v3] [] (hX tx ca cb kt kd sd nw tr ac (fa, fb, al3, nI nt, (nI (cntU F (32 * p + 4 * o + 4))), (firU F (32 * p + 4 * o + 4))) gi mo dn ch s0 s1 ++ t) (fun r h2 => r = none ∧ ∃ al2, wgI F al2 160 ∧ h2 = hX tx ca cb kt kd sd nw tr ac (fa, fb, al2, nI nt, (nI (cntU F 160)), (firU F 160)) gi mo dn ch s0 s1 ++ t) := by
      intro c44 al3 v3 h3
      first | refine Run.iinc_n d_Tu_weigh_77 ic_1 rfl rfl ?_ | refine Run.iinc d_Tu_weigh_77 rfl rfl rfl ?_
      show Run _ _ _ _ _ _ [_, _, _, _] _ _ _
      refine Run.goto d_Tu_weigh_80 ?_
      exact ih c44 al3 v3 h3
    refine Run.iload_n d_Tu_weigh_41 rfl ?_
    refine Run.bipush (v := nI 8) d_Tu_weigh_42 bp_8 ?_
    first | refine Run.icmp_ge_n d_Tu_weigh_44 (by omega) (by omega) (fun c44 => ?_) (fun c44 => ?_) | refine Run.icmp_ge d_Tu_weigh_44 (fun c44 => ?_) (fun c44 => ?_)
    · have e4 : o = 8 := by omega
      subst e4
      exact kk al2 _ _ he
    · refine Run.iconst (v := nI 0) d_Tu_weigh_47 ic_0 ?_
      refine Run.istore_n d_Tu_weigh_48 rfl rfl ?_
      show Run _ _ _ _ _ _ [_, _, _, _] _ _ _
      exact k49 p o hp c44 (h77 c44) al2 he
  have k34 : ∀ al2 v2 v3, wgI F al2 0 → Run X (d + 5) 0 0 M_Tu_weigh 34 [some (.ref 25), some (.int (nI 0)), v2, v3] [] (hX tx ca cb kt kd sd nw tr ac (fa, fb, al2, nI nt, (nI (cntU F 0)), (firU F 0)) gi mo dn ch s0 s1 ++ t) (fun r h2 => r = none ∧ ∃ al2, wgI F al2 160 ∧ h2 = hX tx ca cb kt kd sd nw tr ac (fa, fb, al2, nI nt, (nI (cntU F 160)), (firU F 160)) gi mo dn ch s0 s1 ++ t) := by
    intro al2 v2 v3 hal2
    refine upto 5 (fun p => ∀ (al2 : FI) (v2 v3 : Option Value), wgI F al2 (32 * p) → Run X (d + 5) 0 0 M_Tu_weigh 34 [some (.ref 25), some (.int (nI p)), v2, v3] [] (hX tx ca cb kt kd sd nw tr ac (fa, fb, al2, nI nt, (nI (cntU F (32 * p))), (firU F (32 * p))) gi mo dn ch s0 s1 ++ t) (fun r h2 => r = none ∧ ∃ al2, wgI F al2 160 ∧ h2 = hX tx ca cb kt kd sd nw tr ac (fa, fb, al2, nI nt, (nI (cntU F 160)), (firU F 160)) gi mo dn ch s0 s1 ++ t)) ?_ 0 (Nat.zero_le _) al2 v2 v3 hal2
    intro p hp ih al2 v2 v3 he
    have h83 : p < 5 → ∀ al3 v2 v3, wgI F al3 (32 * p + 32) → Run X (d + 5) 0 0 M_Tu_weigh 83 [some (.ref 25), some (.int (nI p)), v2, v3] [] (hX tx ca cb kt kd sd nw tr ac (fa, fb, al3, nI nt, (nI (cntU F (32 * p + 32))), (firU F (32 * p + 32))) gi mo dn ch s0 s1 ++ t) (fun r h2 => r = none ∧ ∃ al2, wgI F al2 160 ∧ h2 = hX tx ca cb kt kd sd nw tr ac (fa, fb, al2, nI nt, (nI (cntU F 160)), (firU F 160)) gi mo dn ch s0 s1 ++ t) := by
      intro c36 al3 v2 v3 h3
      first | refine Run.iinc_n d_Tu_weigh_83 ic_1 rfl rfl ?_ | refine Run.iinc d_Tu_weigh_83 rfl rfl rfl ?_
      show Run _ _ _ _ _ _ [_, _, _, _] _ _ _
      refine Run.goto d_Tu_weigh_86 ?_
      exact ih c36 al3 v2 v3 h3
    refine Run.iload_n d_Tu_weigh_34 rfl ?_
    refine Run.iconst (v := nI 5) d_Tu_weigh_35 ic_5 ?_
    first | refine Run.icmp_ge_n d_Tu_weigh_36 (by omega) (by omega) (fun c36 => ?_) (fun c36 => ?_) | refine Run.icmp_ge d_Tu_weigh_36 (fun c36 => ?_) (fun c36 => ?_)
    · have e4 : p = 5 := by omega
      subst e4
      refine Run.vret d_Tu_weigh_89 rfl ?_
      exact ⟨rfl, al2, he, rfl⟩
    · refine Run.iconst (v := nI 0) d_Tu_weigh_39 ic_0 ?_
      refine Run.istore_n d_Tu_weigh_40 rfl rfl ?_
      show Run _ _ _ _ _ _ [_, _, _, _] _ _ _
      exact k41 p c36 (h83 c36) al2 _ he
  refine Run.aload_n d_Tu_weigh_0 rfl ?_
  refine Run.iconst (v := nI 0) d_Tu_weigh_1 ic_0 ?_
  refine Run.putf d_Tu_weigh_2 fl_Tu_33 (fun _ => rfl) (fun _ => rfl) (by first | rfl | assumption) (by exact Nat.le_of_ble_eq_true rfl) ?_
  refine Run.aload_n d_Tu_weigh_5 rfl ?_
  refine Run.bipush (v := -9) d_Tu_weigh_6 bp_m9 ?_
  refine Run.putf d_Tu_weigh_8 fl_Tu_36 (fun _ => rfl) (fun _ => rfl) (by first | rfl | assumption) (by exact Nat.le_of_ble_eq_true rfl) ?_
  refine Run.iconst (v := nI 0) d_Tu_weigh_11 ic_0 ?_
  refine Run.istore_n d_Tu_weigh_12 rfl rfl ?_
  show Run _ _ _ _ _ _ [_, _, _, _] _ _ _
  refine upto 48 (fun i => ∀ al2 : FI, (∀ j, j < i → al2 j = nI 0) → Run X (d + 5) 0 0 M_Tu_weigh 13 [some (.ref 25), some (.int (nI i)), none, none] [] (hX tx ca cb kt kd sd nw tr ac (fa, fb, al2, nI nt, (nI 0), (-9)) gi mo dn ch s0 s1 ++ t) (fun r h2 => r = none ∧ ∃ al2, wgI F al2 160 ∧ h2 = hX tx ca cb kt kd sd nw tr ac (fa, fb, al2, nI nt, (nI (cntU F 160)), (firU F 160)) gi mo dn ch s0 s1 ++ t)) ?_ 0 (Nat.zero_le _) al (fun j hj => by omega)
  intro i hi ih al2 he
  refine Run.iload_n d_Tu_weigh_13 rfl ?_
  refine Run.bipush (v := nI 48) d_Tu_weigh_14 bp_48 ?_
  first | refine Run.icmp_ge_n d_Tu_weigh_16 (by omega) (by omega) (fun c16 => ?_) (fun c16 => ?_) | refine Run.icmp_ge d_Tu_weigh_16 (fun c16 => ?_) (fun c16 => ?_)
  · refine Run.iconst (v := nI 0) d_Tu_weigh_32 ic_0 ?_
    refine Run.istore_n d_Tu_weigh_33 rfl rfl ?_
    show Run _ _ _ _ _ _ [_, _, _, _] _ _ _
    exact k34 al2 _ _ (fun g a h1 h2 => he _ (by omega))
  · refine Run.aload_n d_Tu_weigh_19 rfl ?_
    refine Run.getf d_Tu_weigh_20 fl_Tu_18 (by first | rfl | assumption) (by rfl) ?_
    refine Run.iload_n d_Tu_weigh_23 rfl ?_
    refine Run.iconst (v := nI 0) d_Tu_weigh_24 ic_0 ?_
    refine Run.iast_n d_Tu_weigh_25 (by first | rfl | assumption) (by omega) (by omega) ?_
    first | refine Run.iinc_n d_Tu_weigh_26 ic_1 rfl rfl ?_ | refine Run.iinc d_Tu_weigh_26 rfl rfl rfl ?_
    show Run _ _ _ _ _ _ [_, _, _, _] _ _ _
    refine Run.goto d_Tu_weigh_29 ?_
    refine ih c16 (upd al2 i (nI 0)) (fun j hj => ?_)
    by_cases hji : j = i
    · subst hji; exact pk_us
    · rw [pk_un hji]; exact he j (by omega)
theorem c_Tu_bestAngle {F : Nat → Bool} (hal : wgI F al 160) : Call X (d + 1) 0 0 M_Tu_bestAngle [.ref 25] (hX tx ca cb kt kd sd nw tr ac (fa, fb, al, nI nt, (nI (cntU F 160)), z4) gi mo dn ch s0 s1 ++ t) (Ret (.int (oI (nxtN (grtN F)))) (hX tx ca cb kt kd sd nw tr ac (fa, fb, al, nI nt, (nI (cntU F 160)), z4) gi mo dn ch s0 s1 ++ t)) := by
  show Run X (d + 1) 0 0 M_Tu_bestAngle 0 [some (.ref 25), none, none, none, none, none] [] _ _
  have hc := cntU_le F 160
  have k31 : ∀ g (a1 a2 : Value), g < 8 → (∀ v5, Run X (d + 1) 0 0 M_Tu_bestAngle 63 [some (.ref 25), some a1, some a2, some (.int (nI g)), some (.int (nI (grtN F g))), v5] [] (hX tx ca cb kt kd sd nw tr ac (fa, fb, al, nI nt, (nI (cntU F 160)), z4) gi mo dn ch s0 s1 ++ t) (Ret (.int (oI (nxtN (grtN F)))) (hX tx ca cb kt kd sd nw tr ac (fa, fb, al, nI nt, (nI (cntU F 160)), z4) gi mo dn ch s0 s1 ++ t))) → Run X (d + 1) 0 0 M_Tu_bestAngle 31 [some (.ref 25), some a1, some a2, some (.int (nI g)), some (.int (nI 0)), some (.int (nI 0))] [] (hX tx ca cb kt kd sd nw tr ac (fa, fb, al, nI nt, (nI (cntU F 160)), z4) gi mo dn ch s0 s1 ++ t) (Ret (.int (oI (nxtN (grtN F)))) (hX tx ca cb kt kd sd nw tr ac (fa, fb, al, nI nt, (nI (cntU F 160)), z4) gi mo dn ch s0 s1 ++ t)) := by
    intro g a1 a2 hg kk
    refine upto 6 (fun a => Run X (d + 1) 0 0 M_Tu_bestAngle 31 [some (.ref 25), some a1, some a2, some (.int (nI g)), some (.int (nI (itN (fun a acc => if acc < alU F g a 160 then alU F g a 160 else acc) 0 a))), some (.int (nI a))] [] (hX tx ca cb kt kd sd nw tr ac (fa, fb, al, nI nt, (nI (cntU F 160)), z4) gi mo dn ch s0 s1 ++ t) (Ret (.int (oI (nxtN (grtN F)))) (hX tx ca cb kt kd sd nw tr ac (fa, fb, al, nI nt, (nI (cntU F 160)), z4) gi mo dn ch s0 s1 ++ t))) ?_ 0 (Nat.zero_le _)
    intro a ha ih
    have w1 := mx6_le (f := fun a => alU F g a 160) (B := cntU F 160) a (fun b _ => alU_le F g b 160)
    have w2 := alU_le F g a 160
    refine Run.iload d_Tu_bestAngle_31 rfl ?_
    refine Run.bipush (v := nI 6) d_Tu_bestAngle_33 bp_6 ?_
    first | refine Run.icmp_ge_n d_Tu_bestAngle_35 (by omega) (by omega) (fun c35 => ?_) (fun c35 => ?_) | refine Run.icmp_ge d_Tu_bestAngle_35 (fun c35 => ?_) (fun c35 => ?_)
    · have e6 : a = 6 := by omega
      subst e6
      exact kk _
    · refine Run.iload d_Tu_bestAngle_38 rfl ?_
      refine Run.aload_n d_Tu_bestAngle_40 rfl ?_
      refine Run.getf d_Tu_bestAngle_41 fl_Tu_18 (by first | rfl | assumption) (by rfl) ?_
      refine Run.bipush (v := nI 6) d_Tu_bestAngle_44 bp_6 ?_
      refine Run.iload_n d_Tu_bestAngle_46 rfl ?_
      first | refine Run.imul_n d_Tu_bestAngle_47 ?_ | refine Run.imul d_Tu_bestAngle_47 ?_
      refine Run.iload d_Tu_bestAngle_48 rfl ?_
      first | refine Run.iadd_n d_Tu_bestAngle_50 ?_ | refine Run.iadd d_Tu_bestAngle_50 ?_
      refine Run.iald_n d_Tu_bestAngle_51 (by first | rfl | assumption) (by omega) (by omega) ?_
      rw [show (fa, fb, al, nI nt, nI (cntU F 160), z4).2.2.1 (6 * g + a) = nI (alU F g a 160) from hal g a hg c35]
      refine Run.mmax d_Tu_bestAngle_52 mm_Tu_47 (Nat.le_of_ble_eq_true rfl) ?_
      have e7 := nI_ltI (a := itN (fun a acc => if acc < alU F g a 160 then alU F g a 160 else acc) 0 a) (b := alU F g a 160) (by omega) (by omega)
      refine Run.istore d_Tu_bestAngle_55 rfl rfl ?_
      show Run _ _ _ _ _ _ [_, _, _, _, _, _] _ _ _
      first | refine Run.iinc_n d_Tu_bestAngle_57 ic_1 rfl rfl ?_ | refine Run.iinc d_Tu_bestAngle_57 rfl rfl rfl ?_
      show Run _ _ _ _ _ _ [_, _, _, _, _, _] _ _ _
      refine Run.goto d_Tu_bestAngle_60 ?_
      refine run_cg ?_ (ih c35)
      have e8 : (if nI (itN (fun a acc => if acc < alU F g a 160 then alU F g a 160 else acc) 0 a) < nI (alU F g a 160) then nI (alU F g a 160) else nI (itN (fun a acc => if acc < alU F g a 160 then alU F g a 160 else acc) 0 a)) = nI (itN (fun a acc => if acc < alU F g a 160 then alU F g a 160 else acc) 0 (a + 1)) := by
        show _ = nI (if _ < alU F g a 160 then alU F g a 160 else _)
        by_cases hq : itN (fun a acc => if acc < alU F g a 160 then alU F g a 160 else acc) 0 a < alU F g a 160
        · rw [if_pos (e7.mpr hq), if_pos hq]
        · rw [if_neg (fun z => hq (e7.mp z)), if_neg hq]
      rw [e8]
  have k12 : ∀ v4 v5, Run X (d + 1) 0 0 M_Tu_bestAngle 12 [some (.ref 25), some (.int (-9)), some (.int (nI (cntU F 160 + 1))), some (.int (nI 0)), v4, v5] [] (hX tx ca cb kt kd sd nw tr ac (fa, fb, al, nI nt, (nI (cntU F 160)), z4) gi mo dn ch s0 s1 ++ t) (Ret (.int (oI (nxtN (grtN F)))) (hX tx ca cb kt kd sd nw tr ac (fa, fb, al, nI nt, (nI (cntU F 160)), z4) gi mo dn ch s0 s1 ++ t)) := by
    intro v4 v5
    refine upto 8 (fun g => ∀ (b l : Int32) (v4 v5 : Option Value), (itN (nxtF (grtN F)) none g = none ∧ b = -9 ∧ l = nI (cntU F 160 + 1) ∨ ∃ b0 l0, itN (nxtF (grtN F)) none g = some (b0, l0) ∧ b = nI b0 ∧ l = nI l0) → (cntU F 160 = 0 → g = 0) → Run X (d + 1) 0 0 M_Tu_bestAngle 12 [some (.ref 25), some (.int b), some (.int l), some (.int (nI g)), v4, v5] [] (hX tx ca cb kt kd sd nw tr ac (fa, fb, al, nI nt, (nI (cntU F 160)), z4) gi mo dn ch s0 s1 ++ t) (Ret (.int (oI (nxtN (grtN F)))) (hX tx ca cb kt kd sd nw tr ac (fa, fb, al, nI nt, (nI (cntU F 160)), z4) gi mo dn ch s0 s1 ++ t))) ?_ 0 (Nat.zero_le _) _ _ v4 v5 (Or.inl ⟨rfl, rfl, rfl⟩) (fun _ => rfl)
    intro g hg ih b l v4 v5 hI h0
    have w1 := grt_le F g
    have hend : g = 8 → oI (nxtN (grtN F)) = b := by
      intro e
      subst e
      rcases hI with ⟨h1, h2, -⟩ | ⟨b0, l0, h1, h2, -⟩
      · rw [nxtN, h1, h2]; rfl
      · rw [nxtN, h1, h2]; rfl
    have hz : cntU F 160 = 0 → oI (nxtN (grtN F)) = b := by
      intro e
      have e1 := h0 e
      subst e1
      rcases hI with ⟨-, h2, -⟩ | ⟨b0, l0, h1, -, -⟩
      · rw [h2]
        have : ∀ n, itN (nxtF (grtN F)) none n = none := by
          intro n
          induction n with
          | zero => rfl
          | succ n ihn =>
            show nxtF (grtN F) n _ = none
            have := grt_le F n
            rw [ihn, nxtF, if_neg (by omega)]
        rw [nxtN, this]
        rfl
      · cases h1
    have h63 : ∀ v5, g < 8 → 0 < cntU F 160 → Run X (d + 1) 0 0 M_Tu_bestAngle 63 [some (.ref 25), some (.int b), some (.int l), some (.int (nI g)), some (.int (nI (grtN F g))), v5] [] (hX tx ca cb kt kd sd nw tr ac (fa, fb, al, nI nt, (nI (cntU F 160)), z4) gi mo dn ch s0 s1 ++ t) (Ret (.int (oI (nxtN (grtN F)))) (hX tx ca cb kt kd sd nw tr ac (fa, fb, al, nI nt, (nI (cntU F 160)), z4) gi mo dn ch s0 s1 ++ t)) := by
      intro v5 c15 c22
      have w2 := grt_pos (F := F) g c22
      rcases hI with ⟨h1, rfl, rfl⟩ | ⟨b0, l0, h1, rfl, rfl⟩
      ·
        refine Run.iload d_Tu_bestAngle_63 rfl ?_
        refine Run.iload_n d_Tu_bestAngle_65 rfl ?_
        first | refine Run.icmp_ge_n d_Tu_bestAngle_66 (by omega) (by omega) (fun c66 => ?_) (fun c66 => ?_) | refine Run.icmp_ge d_Tu_bestAngle_66 (fun c66 => ?_) (fun c66 => ?_)
        · omega
        · refine Run.iload d_Tu_bestAngle_69 rfl ?_
          refine Run.istore_n d_Tu_bestAngle_71 rfl rfl ?_
          show Run _ _ _ _ _ _ [_, _, _, _, _, _] _ _ _
          refine Run.iload_n d_Tu_bestAngle_72 rfl ?_
          refine Run.istore_n d_Tu_bestAngle_73 rfl rfl ?_
          show Run _ _ _ _ _ _ [_, _, _, _, _, _] _ _ _
          first | refine Run.iinc_n d_Tu_bestAngle_74 ic_1 rfl rfl ?_ | refine Run.iinc d_Tu_bestAngle_74 rfl rfl rfl ?_
          show Run _ _ _ _ _ _ [_, _, _, _, _, _] _ _ _
          refine Run.goto d_Tu_bestAngle_77 ?_
          exact ih c15 _ _ _ _ (Or.inr ⟨g, grtN F g, by show nxtF (grtN F) g _ = _; rw [h1, nxtF, if_pos w2], rfl, rfl⟩) (fun z => by omega)
      ·
        have w3 := nxt_lt g b0 l0 h1
        have w4 := grt_le F b0
        refine Run.iload d_Tu_bestAngle_63 rfl ?_
        refine Run.iload_n d_Tu_bestAngle_65 rfl ?_
        first | refine Run.icmp_ge_n d_Tu_bestAngle_66 (by omega) (by omega) (fun c66 => ?_) (fun c66 => ?_) | refine Run.icmp_ge d_Tu_bestAngle_66 (fun c66 => ?_) (fun c66 => ?_)
        · first | refine Run.iinc_n d_Tu_bestAngle_74 ic_1 rfl rfl ?_ | refine Run.iinc d_Tu_bestAngle_74 rfl rfl rfl ?_
          show Run _ _ _ _ _ _ [_, _, _, _, _, _] _ _ _
          refine Run.goto d_Tu_bestAngle_77 ?_
          first
          | exact ih c15 _ _ _ _ (Or.inr ⟨g, grtN F g, by show nxtF (grtN F) g _ = _; rw [h1, nxtF, if_pos w2]; exact if_pos c66, rfl, rfl⟩) (fun z => by omega)
          | exact ih c15 _ _ _ _ (Or.inr ⟨b0, l0, by show nxtF (grtN F) g _ = _; rw [h1, nxtF, if_pos w2]; exact if_neg (by omega), rfl, rfl⟩) (fun z => by omega)
        · refine Run.iload d_Tu_bestAngle_69 rfl ?_
          refine Run.istore_n d_Tu_bestAngle_71 rfl rfl ?_
          show Run _ _ _ _ _ _ [_, _, _, _, _, _] _ _ _
          refine Run.iload_n d_Tu_bestAngle_72 rfl ?_
          refine Run.istore_n d_Tu_bestAngle_73 rfl rfl ?_
          show Run _ _ _ _ _ _ [_, _, _, _, _, _] _ _ _
          first | refine Run.iinc_n d_Tu_bestAngle_74 ic_1 rfl rfl ?_ | refine Run.iinc d_Tu_bestAngle_74 rfl rfl rfl ?_
          show Run _ _ _ _ _ _ [_, _, _, _, _, _] _ _ _
          refine Run.goto d_Tu_bestAngle_77 ?_
          first
          | exact ih c15 _ _ _ _ (Or.inr ⟨g, grtN F g, by show nxtF (grtN F) g _ = _; rw [h1, nxtF, if_pos w2]; exact if_pos c66, rfl, rfl⟩) (fun z => by omega)
          | exact ih c15 _ _ _ _ (Or.inr ⟨b0, l0, by show nxtF (grtN F) g _ = _; rw [h1, nxtF, if_pos w2]; exact if_neg (by omega), rfl, rfl⟩) (fun z => by omega)
    refine Run.iload_n d_Tu_bestAngle_12 rfl ?_
    refine Run.bipush (v := nI 8) d_Tu_bestAngle_13 bp_8 ?_
    first | refine Run.icmp_ge_n d_Tu_bestAngle_15 (by omega) (by omega) (fun c15 => ?_) (fun c15 => ?_) | refine Run.icmp_ge d_Tu_bestAngle_15 (fun c15 => ?_) (fun c15 => ?_)
    · refine Run.iload_n d_Tu_bestAngle_80 rfl ?_
      refine Run.iret d_Tu_bestAngle_81 rfl rfl ?_
      first
      | exact ret_i (hend (by omega)).symm
      | exact ret_i (hz (by omega)).symm
    · refine Run.aload_n d_Tu_bestAngle_18 rfl ?_
      refine Run.getf d_Tu_bestAngle_19 fl_Tu_33 (by first | rfl | assumption) (by rfl) ?_
      first | refine Run.if_le_n d_Tu_bestAngle_22 (by omega) (fun c22 => ?_) (fun c22 => ?_) | refine Run.if_le d_Tu_bestAngle_22 (fun c22 => ?_) (fun c22 => ?_)
      · refine Run.iload_n d_Tu_bestAngle_80 rfl ?_
        refine Run.iret d_Tu_bestAngle_81 rfl rfl ?_
        first
        | exact ret_i (hend (by omega)).symm
        | exact ret_i (hz (by omega)).symm
      · refine Run.iconst (v := nI 0) d_Tu_bestAngle_25 ic_0 ?_
        refine Run.istore d_Tu_bestAngle_26 rfl rfl ?_
        show Run _ _ _ _ _ _ [_, _, _, _, _, _] _ _ _
        refine Run.iconst (v := nI 0) d_Tu_bestAngle_28 ic_0 ?_
        refine Run.istore d_Tu_bestAngle_29 rfl rfl ?_
        show Run _ _ _ _ _ _ [_, _, _, _, _, _] _ _ _
        exact k31 g _ _ c15 (fun v5 => h63 v5 c15 c22)
  refine Run.bipush (v := -9) d_Tu_bestAngle_0 bp_m9 ?_
  refine Run.istore_n d_Tu_bestAngle_2 rfl rfl ?_
  show Run _ _ _ _ _ _ [_, _, _, _, _, _] _ _ _
  refine Run.aload_n d_Tu_bestAngle_3 rfl ?_
  refine Run.getf d_Tu_bestAngle_4 fl_Tu_33 (by first | rfl | assumption) (by rfl) ?_
  refine Run.iconst (v := nI 1) d_Tu_bestAngle_7 ic_1 ?_
  first | refine Run.iadd_n d_Tu_bestAngle_8 ?_ | refine Run.iadd d_Tu_bestAngle_8 ?_
  refine Run.istore_n d_Tu_bestAngle_9 rfl rfl ?_
  show Run _ _ _ _ _ _ [_, _, _, _, _, _] _ _ _
  refine Run.iconst (v := nI 0) d_Tu_bestAngle_10 ic_0 ?_
  refine Run.istore_n d_Tu_bestAngle_11 rfl rfl ?_
  show Run _ _ _ _ _ _ [_, _, _, _, _, _] _ _ _
  exact k12 _ _
def mayR (F : Nat → Bool) (x : Int32) : Int32 := match swN x 2 with
  | some 0 => nI (cntU F 160)
  | some 1 => firU F 160
  | _ => -2
theorem q_PM_may {F : Nat → Bool} {x : Int32} (hFd : F = fitN ta tv nt) (hnt : nt ≤ 6) (hta : ∀ j, j < nt → fa j = nI (ta j) ∧ ta j < 8) (htv : ∀ j, j < nt → fb j = nI (tv j) ∧ tv j < 6) : Call X (d + 6) 0 0 M_PM_may [.ref 1, .int x] (hX tx ca cb kt kd sd nw tr ac (fa, fb, al, nI nt, z3, z4) gi mo dn ch s0 s1 ++ t) (fun r h2 => r = some (.int (mayR F x)) ∧ ∃ al2 y3 y4, h2 = hX tx ca cb kt kd sd nw tr ac (fa, fb, al2, nI nt, y3, y4) gi mo dn ch s0 s1 ++ t) := by
  show Run X (d + 6) 0 0 M_PM_may 0 [some (.ref 1), some (.int x)] [] _ _
  rcases pk_ix x (n := 2) (by omega) with q | q | ⟨j, q, rfl⟩
  ·
    refine Run.iload_n d_PM_may_0 rfl ?_
    first | refine Run.if_eq_b d_PM_may_1 (fun c1 => ?_) (fun c1 => ?_) | refine Run.if_eq_n d_PM_may_1 (by omega) (fun c1 => ?_) (fun c1 => ?_) | refine Run.if_eq d_PM_may_1 (fun c1 => ?_) (fun c1 => ?_)
    · rw [c1] at q; exact absurd q (by decide)
    · refine Run.iload_n d_PM_may_4 rfl ?_
      refine Run.iconst (v := nI 1) d_PM_may_5 ic_1 ?_
      first | refine Run.icmp_eq_n d_PM_may_6 (by omega) (by omega) (fun c6 => ?_) (fun c6 => ?_) | refine Run.icmp_eq d_PM_may_6 (fun c6 => ?_) (fun c6 => ?_)
      · rw [c6] at q; exact absurd q (by decide)
      · refine Run.bipush (v := -2) d_PM_may_9 bp_m2 ?_
        refine Run.iret d_PM_may_11 rfl rfl ?_
        exact ⟨by rw [mayR, swN_lt q], al, z3, z4, rfl⟩
  ·
    refine Run.iload_n d_PM_may_0 rfl ?_
    first | refine Run.if_eq_b d_PM_may_1 (fun c1 => ?_) (fun c1 => ?_) | refine Run.if_eq_n d_PM_may_1 (by omega) (fun c1 => ?_) (fun c1 => ?_) | refine Run.if_eq d_PM_may_1 (fun c1 => ?_) (fun c1 => ?_)
    · rw [c1] at q; exact absurd q (by decide)
    · refine Run.iload_n d_PM_may_4 rfl ?_
      refine Run.iconst (v := nI 1) d_PM_may_5 ic_1 ?_
      first | refine Run.icmp_eq_n d_PM_may_6 (by omega) (by omega) (fun c6 => ?_) (fun c6 => ?_) | refine Run.icmp_eq d_PM_may_6 (fun c6 => ?_) (fun c6 => ?_)
      · rw [c6] at q; exact absurd q (by decide)
      · refine Run.bipush (v := -2) d_PM_may_9 bp_m2 ?_
        refine Run.iret d_PM_may_11 rfl rfl ?_
        exact ⟨by rw [mayR, swN_ge q], al, z3, z4, rfl⟩
  · rcases (show j = 0 ∨ j = 1 by omega) with rfl | rfl
    ·
      refine Run.iload_n d_PM_may_0 rfl ?_
      first | refine Run.if_eq_b d_PM_may_1 (fun c1 => ?_) (fun c1 => ?_) | refine Run.if_eq_n d_PM_may_1 (by omega) (fun c1 => ?_) (fun c1 => ?_) | refine Run.if_eq d_PM_may_1 (fun c1 => ?_) (fun c1 => ?_)
      · refine Run.aload_n d_PM_may_12 rfl ?_
        refine Run.getf d_PM_may_13 fl_PM_50 (by first | rfl | assumption) (by rfl) ?_
        refine Run.V0 d_PM_may_16 lk_PM_236 cm_Tu_weigh iv_Tu_weigh rfl (by first | rfl | assumption) (Nat.le_of_ble_eq_true rfl) (Nat.le_of_ble_eq_true rfl) (c_Tu_weigh hFd hnt hta htv) (fun r16 h16 q16 => ?_)
        obtain ⟨rfl, al2, ha2, rfl⟩ := q16
        refine Run.iload_n d_PM_may_19 rfl ?_
        first | refine Run.if_ne_b d_PM_may_20 (fun c20 => ?_) (fun c20 => ?_) | refine Run.if_ne_n d_PM_may_20 (by omega) (fun c20 => ?_) (fun c20 => ?_) | refine Run.if_ne d_PM_may_20 (fun c20 => ?_) (fun c20 => ?_)
        · exact absurd rfl c20
        · refine Run.aload_n d_PM_may_23 rfl ?_
          refine Run.getf d_PM_may_24 fl_PM_50 (by first | rfl | assumption) (by rfl) ?_
          refine Run.getf d_PM_may_27 fl_PM_239 (by first | rfl | assumption) (by rfl) ?_
          refine Run.goto d_PM_may_30 ?_
          refine Run.iret d_PM_may_40 rfl rfl ?_
          exact ⟨by rw [mayR, swN_in (by omega) (by omega)]; rfl, al2, _, _, rfl⟩
      · exact absurd rfl c1
    ·
      refine Run.iload_n d_PM_may_0 rfl ?_
      first | refine Run.if_eq_b d_PM_may_1 (fun c1 => ?_) (fun c1 => ?_) | refine Run.if_eq_n d_PM_may_1 (by omega) (fun c1 => ?_) (fun c1 => ?_) | refine Run.if_eq d_PM_may_1 (fun c1 => ?_) (fun c1 => ?_)
      · exact absurd c1 (by decide)
      · refine Run.iload_n d_PM_may_4 rfl ?_
        refine Run.iconst (v := nI 1) d_PM_may_5 ic_1 ?_
        first | refine Run.icmp_eq_n d_PM_may_6 (by omega) (by omega) (fun c6 => ?_) (fun c6 => ?_) | refine Run.icmp_eq d_PM_may_6 (fun c6 => ?_) (fun c6 => ?_)
        · refine Run.aload_n d_PM_may_12 rfl ?_
          refine Run.getf d_PM_may_13 fl_PM_50 (by first | rfl | assumption) (by rfl) ?_
          refine Run.V0 d_PM_may_16 lk_PM_236 cm_Tu_weigh iv_Tu_weigh rfl (by first | rfl | assumption) (Nat.le_of_ble_eq_true rfl) (Nat.le_of_ble_eq_true rfl) (c_Tu_weigh hFd hnt hta htv) (fun r16 h16 q16 => ?_)
          obtain ⟨rfl, al2, ha2, rfl⟩ := q16
          rw [show mayR F (nI 1) = firU F 160 by rw [mayR, swN_in (by omega) (by omega)]; generalize firU F 160 = z8; rfl]
          generalize firU F 160 = z9
          refine Run.iload_n d_PM_may_19 rfl ?_
          first | refine Run.if_ne_b d_PM_may_20 (fun c20 => ?_) (fun c20 => ?_) | refine Run.if_ne_n d_PM_may_20 (by omega) (fun c20 => ?_) (fun c20 => ?_) | refine Run.if_ne d_PM_may_20 (fun c20 => ?_) (fun c20 => ?_)
          · refine Run.aload_n d_PM_may_33 rfl ?_
            refine Run.getf d_PM_may_34 fl_PM_50 (by first | rfl | assumption) (by rfl) ?_
            refine Run.getf d_PM_may_37 fl_PM_242 (by first | rfl | assumption) (by rfl) ?_
            refine Run.iret d_PM_may_40 rfl rfl ?_
            exact ⟨rfl, al2, _, _, rfl⟩
          · exact absurd c20 (by decide)
        · exact absurd rfl c6
theorem q_PM_next {F : Nat → Bool} (hFd : F = fitN ta tv nt) (hnt : nt ≤ 6) (hta : ∀ j, j < nt → fa j = nI (ta j) ∧ ta j < 8) (htv : ∀ j, j < nt → fb j = nI (tv j) ∧ tv j < 6) : Call X (d + 6) 0 0 M_PM_next [.ref 1] (hX tx ca cb kt kd sd nw tr ac (fa, fb, al, nI nt, z3, z4) gi mo dn ch s0 s1 ++ t) (fun r h2 => r = some (.int (oI (nxtN (grtN F)))) ∧ ∃ al2 y3 y4, h2 = hX tx ca cb kt kd sd nw tr ac (fa, fb, al2, nI nt, y3, y4) gi mo dn ch s0 s1 ++ t) := by
  show Run X (d + 6) 0 0 M_PM_next 0 [some (.ref 1)] [] _ _
  refine Run.aload_n d_PM_next_0 rfl ?_
  refine Run.getf d_PM_next_1 fl_PM_50 (by first | rfl | assumption) (by rfl) ?_
  refine Run.V0 d_PM_next_4 lk_PM_236 cm_Tu_weigh iv_Tu_weigh rfl (by first | rfl | assumption) (Nat.le_of_ble_eq_true rfl) (Nat.le_of_ble_eq_true rfl) (c_Tu_weigh hFd hnt hta htv) (fun r4 h4 q4 => ?_)
  obtain ⟨rfl, al2, ha2, rfl⟩ := q4
  refine Run.aload_n d_PM_next_7 rfl ?_
  refine Run.getf d_PM_next_8 fl_PM_50 (by first | rfl | assumption) (by rfl) ?_
  refine Run.V0r d_PM_next_11 lk_PM_245 cm_Tu_bestAngle iv_Tu_bestAngle rfl (by first | rfl | assumption) (Nat.le_of_ble_eq_true rfl) (Nat.le_of_ble_eq_true rfl) (c_Tu_bestAngle ha2) ?_
  refine Run.iret d_PM_next_14 rfl rfl ?_
  exact ⟨rfl, al2, _, _, rfl⟩
end UNK
