/-! ===== what holds between the calls ===== -/
def TxR (tx : TxS) (z1 : Int32) (rt : FI) : Prop := ∃ (n : Nat) (bt : Nat → Nat), n ≤ 48 ∧ tx.2 = nI n ∧ z1 = nI n ∧ ∀ k, k < n → tx.1 k = nI (bt k) ∧ rt k = nI (bt k) ∧ bt k < 256
def TuR (tu : TuS) (z9 : Int32) (ta tp : FI) : Prop := ∃ (nt : Nat) (tA tV : Nat → Nat), nt ≤ 6 ∧ tu.2.2.2.1 = nI nt ∧ z9 = nI nt ∧ ∀ j, j < nt → (tu.1 j = nI (tA j) ∧ ta j = nI (tA j) ∧ tA j < 8) ∧ tu.2.1 j = nI (tV j) ∧ tp j = nI (tV j) ∧ tV j < 6
/-- an act that made q of p -/
def UndR (c : CA) (v : Int32) (q p : PG) : Prop := (∃ i b, i < npC c ∧ v = nI (100 * 1 + 10 * i + (if b = true then 1 else 0)) ∧ q = tlP p i b) ∨ (∃ i j, i < npC c ∧ v = nI (100 * 2 + 10 * i + pgW p i) ∧ q = gvP p i j) ∨ (v = nI 300 ∧ q = hourN p 1)
def OkP (c : CA) (N : Nat) (p : PG) : Prop := pgOK c p ∧ pgH p ≤ N
def HiR (c : CA) (N : Nat) (ac : AcS) (z8 : Int32) (bk : FI) (p : PG) : Prop := ∃ (na : Nat) (P : Nat → PG), na ≤ 14 ∧ ac.2 = nI na ∧ z8 = nI na ∧ (∀ k, k < na → OkP c N (P k) ∧ PgV c (P k) (fun j => bk (14 * k + j)) ∧ UndR c (ac.1 k) (P (k + 1)) (P k)) ∧ P na = p
def SlR (c : CA) (N : Nat) (s : StS) (m : Nat) (kp ik : FI) : Prop := ∃ b : Bool, s.2.2.2.2 = bI b ∧ ik m = bI b ∧ (b = true → ∃ q, OkP c N q ∧ StR c q s ∧ PgV c q (fun j => kp (14 * m + j)))
def WoR (N : Nat) (ca cb : CoS) (kt kd : Nat) (nw : StS) (ac : AcS) (s0 s1 : StS) (z3 z4 z8 : Int32) (ho pi pg bk kp ik : FI) : Prop := ∃ c p, coOK c ∧ OkP c N p ∧ TR c ca cb kt kd ∧ RfR c z3 z4 ho pi ∧ StR c p nw ∧ PgV c p pg ∧ HiR c N ac z8 bk p ∧ SlR c N s0 0 kp ik ∧ SlR c N s1 1 kp ik
def InvH (N : Nat) (h : AH) : Prop := ∃ (tx : TxS) (ca cb : CoS) (kt kd : Nat) (sd : Int64) (nw tr : StS) (ac : AcS) (tu : TuS) (gi : GiS) (mo : MoS) (dn ch : FI) (s0 s1 : StS) (z1 z2 z3 z4 z5 z6 z7 z8 z9 y1 y2 y3 y4 : Int32) (rt ho pi rh rp pg rr bk kp ik ta tp ga gr va rw : FI), h = hX tx ca cb kt kd sd nw tr ac tu gi mo dn ch s0 s1 ++ hMx z1 z2 z3 z4 z5 z6 z7 z8 z9 sd y1 y2 y3 y4 rt ho pi rh rp pg rr bk kp ik ta tp ga gr va rw ∧ TxR tx z1 rt ∧ WoR N ca cb kt kd nw ac s0 s1 z3 z4 z8 ho pi pg bk kp ik ∧ TuR tu z9 ta tp
theorem OkP.up {c : CA} {N : Nat} {p : PG} (h : OkP c N p) : OkP c (N + 1) p := ⟨h.1, Nat.le_succ_of_le h.2⟩
theorem HiR.up {c : CA} {N : Nat} {ac : AcS} {z8 : Int32} {bk : FI} {p : PG} (h : HiR c N ac z8 bk p) : HiR c (N + 1) ac z8 bk p := by
  obtain ⟨na, P, h1, h2, h3, h4, h5⟩ := h
  exact ⟨na, P, h1, h2, h3, fun k hk => ⟨(h4 k hk).1.up, (h4 k hk).2⟩, h5⟩
theorem SlR.up {c : CA} {N : Nat} {s : StS} {m : Nat} {kp ik : FI} (h : SlR c N s m kp ik) : SlR c (N + 1) s m kp ik := by
  obtain ⟨b, h1, h2, h3⟩ := h
  refine ⟨b, h1, h2, fun z => ?_⟩
  obtain ⟨q, h4, h5⟩ := h3 z
  exact ⟨q, h4.up, h5⟩
theorem WoR.up {N : Nat} {ca cb : CoS} {kt kd : Nat} {nw : StS} {ac : AcS} {s0 s1 : StS} {z3 z4 z8 : Int32} {ho pi pg bk kp ik : FI} (h : WoR N ca cb kt kd nw ac s0 s1 z3 z4 z8 ho pi pg bk kp ik) : WoR (N + 1) ca cb kt kd nw ac s0 s1 z3 z4 z8 ho pi pg bk kp ik := by
  obtain ⟨c, p, hc, hp, ht, hr, hs, hg, hh, h0, h1⟩ := h
  exact ⟨c, p, hc, hp.up, ht, hr, hs, hg, hh.up, h0.up, h1.up⟩
section INV
variable {X : Nat × (Nat → Int32)} {N : Nat} {tx : TxS} {ca cb : CoS} {kt kd : Nat} {sd : Int64} {nw tr : StS} {ac : AcS} {tu : TuS} {gi : GiS} {mo : MoS} {dn ch : FI} {s0 s1 : StS} {z1 z2 z3 z4 z5 z6 z7 z8 z9 y1 y2 y3 y4 : Int32} {rt ho pi rh rp pg rr bk kp ik ta tp ga gr va rw : FI} {f0 : Nat → AC}
theorem inv_mk (hT : TxR tx z1 rt) (hW : WoR N ca cb kt kd nw ac s0 s1 z3 z4 z8 ho pi pg bk kp ik) (hU : TuR tu z9 ta tp) : InvH N (hX tx ca cb kt kd sd nw tr ac tu gi mo dn ch s0 s1 ++ hMx z1 z2 z3 z4 z5 z6 z7 z8 z9 sd y1 y2 y3 y4 rt ho pi rh rp pg rr bk kp ik ta tp ga gr va rw) := ⟨tx, ca, cb, kt, kd, sd, nw, tr, ac, tu, gi, mo, dn, ch, s0, s1, z1, z2, z3, z4, z5, z6, z7, z8, z9, y1, y2, y3, y4, rt, ho, pi, rh, rp, pg, rr, bk, kp, ik, ta, tp, ga, gr, va, rw, rfl, hT, hW, hU⟩
theorem toPX : ∃ f0, hX tx ca cb kt kd sd nw tr ac tu gi mo dn ch s0 s1 = PX f0 := ⟨fun k => (hX tx ca cb kt kd sd nw tr ac tu gi mo dn ch s0 s1).getD k (zA 0 (fun _ => 0)), rfl⟩
theorem inv_mk3 (hf : hX tx ca cb kt kd sd nw tr ac tu gi mo dn ch s0 s1 = PX f0) (hT : TxR tx z1 rt) (hW : WoR N ca cb kt kd nw ac s0 s1 z3 z4 z8 ho pi pg bk kp ik) (hU : TuR tu z9 ta tp) : InvH N (PX f0 ++ hMx z1 z2 z3 z4 z5 z6 z7 z8 z9 sd y1 y2 y3 y4 rt ho pi rh rp pg rr bk kp ik ta tp ga gr va rw) := by
  rw [← hf]
  exact inv_mk hT hW hU
theorem inv_mk2 (hf : hX tx ca cb kt kd sd nw tr ac tu gi mo dn ch s0 s1 = PX f0) (hT : TxR tx z1 rt) (hW : WoR N ca cb kt kd nw ac s0 s1 z3 z4 z8 ho pi pg bk kp ik) (hU : TuR tu z9 ta tp) : InvH N (PX f0 ++ hM (z1, z2, z3, z4, z5, z6, z7, z8, z9, sd, y1, y2, y3, y4) rt ho pi rh rp pg rr bk kp ik ta tp ga gr va rw) := by
  rw [hM_x]
  exact inv_mk3 hf hT hW hU
theorem RfR.at2 {c : CA} (h : RfR c z3 z4 ho pi) : RfAt (PX f0 ++ hM (z1, z2, z3, z4, z5, z6, z7, z8, z9, sd, y1, y2, y3, y4) rt ho pi rh rp pg rr bk kp ik ta tp ga gr va rw) c := RfR.at (nu := (z1, z2, z3, z4, z5, z6, z7, z8, z9, sd, y1, y2, y3, y4)) h
/-- a call on both sides: the answers are one, and what held holds -/
def Pr (X : Nat × (Nat → Int32)) (N : Nat) (M1 M2 : MR) (As : List Value) : Prop := ∀ h, InvH N h → (∃ fs, h[0]? = some (.inr (7, fs))) ∧ ∃ (v : Int32) (Q1 : Option Value → AH → Prop), Call X 40 0 0 M1 (.ref 1 :: As) h Q1 ∧ ∀ r1 h1, Q1 r1 h1 → r1 = some (.int v) ∧ (∃ fs, h1[43]? = some (.inr (8, fs))) ∧ ∃ Q2 : Option Value → AH → Prop, Call X 40 0 0 M2 (.ref 44 :: As) h1 Q2 ∧ ∀ r2 h2, Q2 r2 h2 → r2 = some (.int v) ∧ InvH (N + 1) h2
/-- what is to be shown of the reference's side -/
def Sd2 (X : Nat × (Nat → Int32)) (N : Nat) (M2 : MR) (As : List Value) (v : Int32) (h1 : AH) : Prop := ∃ Q2 : Option Value → AH → Prop, Call X 40 0 0 M2 (.ref 44 :: As) h1 Q2 ∧ ∀ r2 h2, Q2 r2 h2 → r2 = some (.int v) ∧ InvH (N + 1) h2
theorem Pr.mk {M1 M2 : MR} {As : List Value} (H : ∀ (tx : TxS) (ca cb : CoS) (kt kd : Nat) (sd : Int64) (nw tr : StS) (ac : AcS) (tu : TuS) (gi : GiS) (mo : MoS) (dn ch : FI) (s0 s1 : StS) (z1 z2 z3 z4 z5 z6 z7 z8 z9 y1 y2 y3 y4 : Int32) (rt ho pi rh rp pg rr bk kp ik ta tp ga gr va rw : FI), TxR tx z1 rt → WoR N ca cb kt kd nw ac s0 s1 z3 z4 z8 ho pi pg bk kp ik → TuR tu z9 ta tp → ∃ (v : Int32) (Q1 : Option Value → AH → Prop), Call X 40 0 0 M1 (.ref 1 :: As) (hX tx ca cb kt kd sd nw tr ac tu gi mo dn ch s0 s1 ++ hMx z1 z2 z3 z4 z5 z6 z7 z8 z9 sd y1 y2 y3 y4 rt ho pi rh rp pg rr bk kp ik ta tp ga gr va rw) Q1 ∧ ∀ r1 h1, Q1 r1 h1 → r1 = some (.int v) ∧ ∃ f0, h1 = PX f0 ++ hMx z1 z2 z3 z4 z5 z6 z7 z8 z9 sd y1 y2 y3 y4 rt ho pi rh rp pg rr bk kp ik ta tp ga gr va rw ∧ Sd2 X N M2 As v (PX f0 ++ hM (z1, z2, z3, z4, z5, z6, z7, z8, z9, sd, y1, y2, y3, y4) rt ho pi rh rp pg rr bk kp ik ta tp ga gr va rw)) : Pr X N M1 M2 As := by
  rintro h ⟨tx, ca, cb, kt, kd, sd, nw, tr, ac, tu, gi, mo, dn, ch, s0, s1, z1, z2, z3, z4, z5, z6, z7, z8, z9, y1, y2, y3, y4, rt, ho, pi, rh, rp, pg, rr, bk, kp, ik, ta, tp, ga, gr, va, rw, rfl, hT, hW, hU⟩
  obtain ⟨v, Q1, hc, hk⟩ := H tx ca cb kt kd sd nw tr ac tu gi mo dn ch s0 s1 z1 z2 z3 z4 z5 z6 z7 z8 z9 y1 y2 y3 y4 rt ho pi rh rp pg rr bk kp ik ta tp ga gr va rw hT hW hU
  refine ⟨⟨_, rfl⟩, v, Q1, hc, fun r1 h1 q1 => ?_⟩
  obtain ⟨e1, f0, rfl, Q2, hc2, hk2⟩ := hk r1 h1 q1
  rw [hM_x] at hc2
  exact ⟨e1, ⟨_, rfl⟩, Q2, hc2, hk2⟩
theorem st2 {M2 : MR} {As : List Value} {v : Int32} {sc : Int64} (K : ∀ f0, hX tx ca cb kt kd sc nw tr ac tu gi mo dn ch s0 s1 = PX f0 → Sd2 X N M2 As v (PX f0 ++ hM (z1, z2, z3, z4, z5, z6, z7, z8, z9, sd, y1, y2, y3, y4) rt ho pi rh rp pg rr bk kp ik ta tp ga gr va rw)) : (some (.int v) : Option Value) = some (.int v) ∧ ∃ f0, hX tx ca cb kt kd sc nw tr ac tu gi mo dn ch s0 s1 ++ hMx z1 z2 z3 z4 z5 z6 z7 z8 z9 sd y1 y2 y3 y4 rt ho pi rh rp pg rr bk kp ik ta tp ga gr va rw = PX f0 ++ hMx z1 z2 z3 z4 z5 z6 z7 z8 z9 sd y1 y2 y3 y4 rt ho pi rh rp pg rr bk kp ik ta tp ga gr va rw ∧ Sd2 X N M2 As v (PX f0 ++ hM (z1, z2, z3, z4, z5, z6, z7, z8, z9, sd, y1, y2, y3, y4) rt ho pi rh rp pg rr bk kp ik ta tp ga gr va rw) := by
  obtain ⟨f0, hf⟩ := toPX (tx := tx) (ca := ca) (cb := cb) (kt := kt) (kd := kd) (sd := sc) (nw := nw) (tr := tr) (ac := ac) (tu := tu) (gi := gi) (mo := mo) (dn := dn) (ch := ch) (s0 := s0) (s1 := s1)
  exact ⟨rfl, f0, by rw [hf], K f0 hf⟩
end INV
/-- one act more -/
theorem hist_add {c : CA} {N : Nat} {row bk pg bk2 : FI} {na n2 : Nat} {P : Nat → PG} {p p2 : PG} {v : Int32} (hn : na ≤ 14) (hP : ∀ k, k < na → OkP c N (P k) ∧ PgV c (P k) (fun j => bk (14 * k + j)) ∧ UndR c (row k) (P (k + 1)) (P k)) (hPn : P na = p) (hp : OkP c N p) (hg : PgV c p pg) (hnp : npC c ≤ 6) (hB : BkA bk pg bk2 na n2) (hU : UndR c v p2 p) : HiR c (N + 1) ((acA row na v).1, nI (acA row na v).2) (nI n2) bk2 p2 := by
  rcases hB with ⟨h1, rfl, h2, h3⟩ | ⟨rfl, rfl, h2, h3⟩
  · rw [acA, if_pos h1]
    refine ⟨na + 1, fun k => if k ≤ na then P k else p2, by omega, rfl, rfl, fun k hk => ?_, if_neg (by omega)⟩
    show OkP c (N + 1) (if k ≤ na then P k else p2) ∧ PgV c (if k ≤ na then P k else p2) _ ∧ UndR c (upd row na v k) (if k + 1 ≤ na then P (k + 1) else p2) (if k ≤ na then P k else p2)
    rw [if_pos (show k ≤ na by omega)]
    by_cases e : k = na
    · subst e
      rw [if_neg (show ¬ k + 1 ≤ k by omega), pk_us, hPn]
      exact ⟨hp.up, hg.cp hnp (fun j hj => h3 j hj), hU⟩
    · rw [if_pos (show k + 1 ≤ na by omega), pk_un e]
      have hk2 := hP k (by omega)
      exact ⟨hk2.1.up, hk2.2.1.cp hnp (fun j hj => h2 _ (by omega)), hk2.2.2⟩
  · rw [acA, if_neg (by omega)]
    refine ⟨14, fun k => if k ≤ 13 then P (k + 1) else p2, by omega, rfl, rfl, fun k hk => ?_, if_neg (by omega)⟩
    show OkP c (N + 1) (if k ≤ 13 then P (k + 1) else p2) ∧ PgV c (if k ≤ 13 then P (k + 1) else p2) _ ∧ UndR c (upd (va_cpy row row 1 0 13) 13 v k) (if k + 1 ≤ 13 then P (k + 1 + 1) else p2) (if k ≤ 13 then P (k + 1) else p2)
    rw [if_pos (show k ≤ 13 by omega)]
    by_cases e : k = 13
    · subst e
      rw [if_neg (show ¬ 13 + 1 ≤ 13 by omega), pk_us, hPn]
      exact ⟨hp.up, hg.cp hnp (fun j hj => h3 j hj), hU⟩
    · rw [if_pos (show k + 1 ≤ 13 by omega), pk_un e, pk_cpy_in (by omega) (by omega)]
      have hk2 := hP (k + 1) (by omega)
      refine ⟨hk2.1.up, hk2.2.1.cp hnp (fun j hj => ?_), ?_⟩
      · rw [h2 _ (by omega)]
        congr 1
        omega
      · rw [show 1 + (k - 0) = k + 1 by omega]
        exact hk2.2.2
theorem fw_ex {c : CA} {s : Nat} : ∀ n, ColP c s n → ∃ k, FwP c s k := by
  intro n
  induction n using Nat.strongRecOn with
  | ind n ih =>
    intro hn
    by_cases h : ∃ m, m < n ∧ ColP c s m
    · obtain ⟨m, h1, h2⟩ := h
      exact ih m h1 h2
    · refine ⟨n, hn, fun k hk => ?_⟩
      rcases Nat.lt_or_ge k n with q | q
      · exact absurd ⟨k, q, hk⟩ h
      · exact q
