/-! ===== the whole heap: the class's cells (0 .. 42), the reference's (43 .. 59) ===== -/
abbrev FI : Type := Nat → Int32
abbrev TxS : Type := FI × Int32
abbrev CoS : Type := FI × FI × FI × FI × FI × Int32 × Int32 × Int32
abbrev StS : Type := FI × FI × Int32 × Int32 × Int32
abbrev AcS : Type := FI × Int32
abbrev TuS : Type := FI × FI × FI × Int32 × Int32 × Int32
abbrev GiS : Type := FI × FI × FI × Int32 × Int32 × Int32 × Int32
abbrev MoS : Type := FI × FI
def slF : Nat → Option Nat := va_up (va_up (fun _ => none) 0 (some 38)) 1 (some 41)
def hX (tx : TxS) (ca cb : CoS) (kt kd : Nat) (sd : Int64) (nw tr : StS) (ac : AcS) (tu : TuS) (gi : GiS) (mo : MoS) (dn ch : FI) (s0 s1 : StS) : AH :=
  [.inr (7, [.ref 2, .ref (kt + 1), .ref (kd + 1), .ref 16, .ref 19, .ref 22, .ref 23, .ref 25, .ref 29, .ref 33, .ref 36, .ref 37, .long sd]),
   .inr (5, [.ref 3, .int tx.2]), .inl (.int, 48, .inl tx.1),
   .inr (1, [.ref 5, .ref 6, .ref 7, .ref 8, .ref 9, .int ca.2.2.2.2.2.1, .int ca.2.2.2.2.2.2.1, .int ca.2.2.2.2.2.2.2]), .inl (.int, 4, .inl ca.1), .inl (.int, 6, .inl ca.2.1), .inl (.int, 6, .inl ca.2.2.1), .inl (.int, 6, .inl ca.2.2.2.1), .inl (.int, 6, .inl ca.2.2.2.2.1),
   .inr (1, [.ref 11, .ref 12, .ref 13, .ref 14, .ref 15, .int cb.2.2.2.2.2.1, .int cb.2.2.2.2.2.2.1, .int cb.2.2.2.2.2.2.2]), .inl (.int, 4, .inl cb.1), .inl (.int, 6, .inl cb.2.1), .inl (.int, 6, .inl cb.2.2.1), .inl (.int, 6, .inl cb.2.2.2.1), .inl (.int, 6, .inl cb.2.2.2.2.1),
   .inr (4, [.ref 17, .ref 18, .int nw.2.2.1, .int nw.2.2.2.1, .int nw.2.2.2.2]), .inl (.int, 6, .inl nw.1), .inl (.int, 6, .inl nw.2.1),
   .inr (4, [.ref 20, .ref 21, .int tr.2.2.1, .int tr.2.2.2.1, .int tr.2.2.2.2]), .inl (.int, 6, .inl tr.1), .inl (.int, 6, .inl tr.2.1),
   .inl (.object "PearlMother$State", 2, .inr (.inr (.inr (.inr slF)))),
   .inr (0, [.ref 24, .int ac.2]), .inl (.int, 14, .inl ac.1),
   .inr (6, [.ref 26, .ref 27, .int tu.2.2.2.1, .int tu.2.2.2.2.1, .int tu.2.2.2.2.2, .ref 28]), .inl (.int, 6, .inl tu.1), .inl (.int, 6, .inl tu.2.1), .inl (.int, 48, .inl tu.2.2.1),
   .inr (2, [.ref 30, .ref 31, .ref 32, .int gi.2.2.2.1, .int gi.2.2.2.2.1, .int gi.2.2.2.2.2.1, .int gi.2.2.2.2.2.2]), .inl (.int, 6, .inl gi.1), .inl (.int, 6, .inl gi.2.1), .inl (.int, 7, .inl gi.2.2.1),
   .inr (3, [.ref 34, .ref 35]), .inl (.boolean, 64, .inl mo.1), .inl (.int, 64, .inl mo.2),
   .inl (.int, 4, .inl dn), .inl (.int, 7, .inl ch),
   .inr (4, [.ref 39, .ref 40, .int s0.2.2.1, .int s0.2.2.2.1, .int s0.2.2.2.2]), .inl (.int, 6, .inl s0.1), .inl (.int, 6, .inl s0.2.1),
   .inr (4, [.ref 42, .ref 43, .int s1.2.2.1, .int s1.2.2.2.1, .int s1.2.2.2.2]), .inl (.int, 6, .inl s1.1), .inl (.int, 6, .inl s1.2.1)]
/-- any 43 cells -/
def PX (f : Nat → AC) : AH := [f 0, f 1, f 2, f 3, f 4, f 5, f 6, f 7, f 8, f 9, f 10, f 11, f 12, f 13, f 14, f 15, f 16, f 17, f 18, f 19, f 20, f 21, f 22, f 23, f 24, f 25, f 26, f 27, f 28, f 29, f 30, f 31, f 32, f 33, f 34, f 35, f 36, f 37, f 38, f 39, f 40, f 41, f 42]
/-- the reference's numbers: size of the text, place, holders, pieces, what is read (light, holders, pieces), acts, turned, the seed, scratch -/
abbrev NuS : Type := Int32 × Int32 × Int32 × Int32 × Int32 × Int32 × Int32 × Int32 × Int32 × Int64 × Int32 × Int32 × Int32 × Int32
def hM (nu : NuS) (tx ho pi rh rp pg tr bk kp ik ta tp ga gr va rw : FI) : AH :=
  [.inr (8, [.int (nI 0), .ref 45, .int nu.1, .int nu.2.1, .int nu.2.2.1, .ref 46, .int nu.2.2.2.1, .ref 47, .int nu.2.2.2.2.1, .int nu.2.2.2.2.2.1, .ref 48, .int nu.2.2.2.2.2.2.1, .ref 49, .ref 50, .ref 51, .ref 52, .int nu.2.2.2.2.2.2.2.1, .ref 53, .ref 54, .int nu.2.2.2.2.2.2.2.2.1, .ref 55, .ref 56, .long nu.2.2.2.2.2.2.2.2.2.1, .int nu.2.2.2.2.2.2.2.2.2.2.1, .int nu.2.2.2.2.2.2.2.2.2.2.2.1, .int nu.2.2.2.2.2.2.2.2.2.2.2.2.1, .int nu.2.2.2.2.2.2.2.2.2.2.2.2.2, .ref 57, .ref 58, .ref 59, .ref 60]),
   .inl (.int, 48, .inl tx), .inl (.int, 4, .inl ho), .inl (.int, 18, .inl pi), .inl (.int, 4, .inl rh), .inl (.int, 24, .inl rp), .inl (.int, 14, .inl pg), .inl (.int, 14, .inl tr), .inl (.int, 196, .inl bk), .inl (.int, 28, .inl kp), .inl (.boolean, 2, .inl ik), .inl (.int, 6, .inl ta), .inl (.int, 6, .inl tp), .inl (.int, 8, .inl ga), .inl (.int, 6, .inl gr), .inl (.int, 64, .inl va), .inl (.int, 6, .inl rw)]
/-- a row of the class that stands for the coast -/
def CoR (c : CA) (ca : CoS) : Prop := CoV c ca.1 ca.2.1 ca.2.2.1 ca.2.2.2.1 ∧ ca.2.2.2.2.2.2.1 = nI (nhC c) ∧ ca.2.2.2.2.2.2.2 = nI (npC c)
/-- which of the two is told -/
def TR (c : CA) (ca cb : CoS) (kt kd : Nat) : Prop := (kt = 3 ∧ kd = 9 ∧ CoR c ca) ∨ (kt = 9 ∧ kd = 3 ∧ CoR c cb)
def StR (c : CA) (p : PG) (s : StS) : Prop := StV c p s.1 s.2.1 ∧ s.2.2.1 = nI (pgL p) ∧ s.2.2.2.1 = nI (pgH p)
theorem inB_f {i n : Nat} (hi : i < n) (hn : n < 2 ^ 31) (c : (decide (0 ≤ nI i) && decide (nI i < nI n)) = false) : False := by
  have e : inB (nI i) n = false := c
  rw [inB_nI (by omega) hn, decide_eq_true hi] at e
  cases e
section WORLD
variable {X : Nat × (Nat → Int32)} {d : Nat} {c : CA} {p : PG} {t : AH} {tx : TxS} {ca cb : CoS} {kt kd : Nat} {sd : Int64} {nw tr s0 s1 : StS} {ac : AcS} {tu : TuS} {gi : GiS} {mo : MoS} {dn ch : FI}
theorem TR.at (h : TR c ca cb kt kd) : CoAt (hX tx ca cb kt kd sd nw tr ac tu gi mo dn ch s0 s1 ++ t) kt c := by
  rcases h with ⟨rfl, rfl, h1, h2, h3⟩ | ⟨rfl, rfl, h1, h2, h3⟩
  · exact ⟨_, _, _, _, ca.2.2.2.2.1, ca.2.2.2.2.2.1, by rw [← h2, ← h3]; rfl, rfl, rfl, rfl, rfl, rfl, h1⟩
  · exact ⟨_, _, _, _, cb.2.2.2.2.1, cb.2.2.2.2.2.1, by rw [← h2, ← h3]; rfl, rfl, rfl, rfl, rfl, rfl, h1⟩
theorem TR.tl (h : TR c ca cb kt kd) : TlAt (hX tx ca cb kt kd sd nw tr ac tu gi mo dn ch s0 s1 ++ t) c := ⟨kt, kd, sd, rfl, h.at⟩
theorem StR.now (h : StR c p nw) : StAt (hX tx ca cb kt kd sd nw tr ac tu gi mo dn ch s0 s1 ++ t) 15 c p := ⟨nw.1, nw.2.1, nw.2.2.2.2, by rw [← h.2.1, ← h.2.2]; rfl, rfl, rfl, h.1⟩
theorem StR.tri (h : StR c p tr) : StAt (hX tx ca cb kt kd sd nw tr ac tu gi mo dn ch s0 s1 ++ t) 18 c p := ⟨tr.1, tr.2.1, tr.2.2.2.2, by rw [← h.2.1, ← h.2.2]; rfl, rfl, rfl, h.1⟩
theorem q_PM_write {x : Int32} {n : Nat} {f : FI} (hn : n ≤ 48) : Call X (d + 1) 0 0 M_PM_write [.ref 1, .int x] (hX (f, nI n) ca cb kt kd sd nw tr ac tu gi mo dn ch s0 s1 ++ t) (Ret (.int (if inB x 256 = true then (if n < 48 then nI (n + 1) else -4) else -2)) (hX (if inB x 256 = true then (if n < 48 then (upd f n x, nI (n + 1)) else (f, nI n)) else (f, nI n)) ca cb kt kd sd nw tr ac tu gi mo dn ch s0 s1 ++ t)) := by
  show Run X (d + 1) 0 0 M_PM_write 0 [some (.ref 1), some (.int x)] [] _ _
  have e1 : x < 0 → inB x 256 = false := fun q => by rw [inB, decide_eq_false (Int32.not_le.mpr q), Bool.false_and]
  have e2 : ¬ x ≤ nI 255 → inB x 256 = false := fun q => by
    have z0 : ¬ x < nI 256 := fun z => by
      have z1 := Int32.lt_iff_toInt_lt.mp z
      have z2 := Int32.lt_iff_toInt_lt.mp (Int32.not_le.mp q)
      rw [nI_toInt (by omega)] at z1 z2
      omega
    rw [inB, decide_eq_false z0, Bool.and_false]
  have e3 : ¬ x < 0 → x ≤ nI 255 → inB x 256 = true := fun q1 q2 => by
    rw [inB, decide_eq_true (Int32.not_lt.mp q1), Bool.true_and, decide_eq_true]
    have z2 := Int32.le_iff_toInt_le.mp q2
    apply Int32.lt_iff_toInt_lt.mpr
    rw [nI_toInt (by omega)] at z2 ⊢
    omega
  by_cases hlt : n < 48
  ·
    refine Run.iload_n d_PM_write_0 rfl ?_
    refine Run.if_lt d_PM_write_1 (fun c1 => ?_) (fun c1 => ?_)
    · refine Run.bipush (v := -2) d_PM_write_11 bp_m2 ?_
      refine Run.iret d_PM_write_13 rfl rfl ?_
      first
      | (rw [e1 c1]; exact ⟨rfl, rfl⟩)
      | (rw [e2 c8]; exact ⟨rfl, rfl⟩)
      | (rw [e3 c1 c8, if_pos rfl, if_pos rfl, if_pos hlt, if_pos hlt]; exact ⟨rfl, rfl⟩)
    · refine Run.iload_n d_PM_write_4 rfl ?_
      refine Run.sipush (v := nI 255) d_PM_write_5 sp_255 ?_
      first | refine Run.icmp_le_n d_PM_write_8 (by omega) (by omega) (fun c8 => ?_) (fun c8 => ?_) | refine Run.icmp_le d_PM_write_8 (fun c8 => ?_) (fun c8 => ?_)
      · refine Run.aload_n d_PM_write_14 rfl ?_
        refine Run.getf d_PM_write_15 fl_PM_12 (by first | rfl | assumption) (by rfl) ?_
        refine Run.iload_n d_PM_write_18 rfl ?_
        refine Run.V1r d_PM_write_19 lk_PM_75 cm_Te_add iv_Te_add rfl (by first | rfl | assumption) (Nat.le_of_ble_eq_true rfl) (Nat.le_of_ble_eq_true rfl) (c_Te_add1 (n := n) (k := 1) rfl rfl hlt) ?_
        first | refine Run.if_eq_b d_PM_write_22 (fun c22 => ?_) (fun c22 => ?_) | refine Run.if_eq_n d_PM_write_22 (by omega) (fun c22 => ?_) (fun c22 => ?_) | refine Run.if_eq d_PM_write_22 (fun c22 => ?_) (fun c22 => ?_)
        · cases c22
        · refine Run.aload_n d_PM_write_25 rfl ?_
          refine Run.getf d_PM_write_26 fl_PM_12 (by first | rfl | assumption) (by rfl) ?_
          refine Run.getf d_PM_write_29 fl_PM_79 (by first | rfl | assumption) (by rfl) ?_
          refine Run.goto d_PM_write_32 ?_
          refine Run.iret d_PM_write_37 rfl rfl ?_
          first
          | (rw [e1 c1]; exact ⟨rfl, rfl⟩)
          | (rw [e2 c8]; exact ⟨rfl, rfl⟩)
          | (rw [e3 c1 c8, if_pos rfl, if_pos rfl, if_pos hlt, if_pos hlt]; exact ⟨rfl, rfl⟩)
      · refine Run.bipush (v := -2) d_PM_write_11 bp_m2 ?_
        refine Run.iret d_PM_write_13 rfl rfl ?_
        first
        | (rw [e1 c1]; exact ⟨rfl, rfl⟩)
        | (rw [e2 c8]; exact ⟨rfl, rfl⟩)
        | (rw [e3 c1 c8, if_pos rfl, if_pos rfl, if_pos hlt, if_pos hlt]; exact ⟨rfl, rfl⟩)
  ·
    refine Run.iload_n d_PM_write_0 rfl ?_
    refine Run.if_lt d_PM_write_1 (fun c1 => ?_) (fun c1 => ?_)
    · refine Run.bipush (v := -2) d_PM_write_11 bp_m2 ?_
      refine Run.iret d_PM_write_13 rfl rfl ?_
      first
      | (rw [e1 c1]; exact ⟨rfl, rfl⟩)
      | (rw [e2 c8]; exact ⟨rfl, rfl⟩)
      | (rw [e3 c1 c8, if_pos rfl, if_pos rfl, if_neg hlt, if_neg hlt]; exact ⟨rfl, rfl⟩)
    · refine Run.iload_n d_PM_write_4 rfl ?_
      refine Run.sipush (v := nI 255) d_PM_write_5 sp_255 ?_
      first | refine Run.icmp_le_n d_PM_write_8 (by omega) (by omega) (fun c8 => ?_) (fun c8 => ?_) | refine Run.icmp_le d_PM_write_8 (fun c8 => ?_) (fun c8 => ?_)
      · refine Run.aload_n d_PM_write_14 rfl ?_
        refine Run.getf d_PM_write_15 fl_PM_12 (by first | rfl | assumption) (by rfl) ?_
        refine Run.iload_n d_PM_write_18 rfl ?_
        refine Run.V1r d_PM_write_19 lk_PM_75 cm_Te_add iv_Te_add rfl (by first | rfl | assumption) (Nat.le_of_ble_eq_true rfl) (Nat.le_of_ble_eq_true rfl) (c_Te_add0 (n := n) (f := f) (k := 1) rfl (by omega)) ?_
        first | refine Run.if_eq_b d_PM_write_22 (fun c22 => ?_) (fun c22 => ?_) | refine Run.if_eq_n d_PM_write_22 (by omega) (fun c22 => ?_) (fun c22 => ?_) | refine Run.if_eq d_PM_write_22 (fun c22 => ?_) (fun c22 => ?_)
        · refine Run.bipush (v := -4) d_PM_write_35 bp_m4 ?_
          refine Run.iret d_PM_write_37 rfl rfl ?_
          first
          | (rw [e1 c1]; exact ⟨rfl, rfl⟩)
          | (rw [e2 c8]; exact ⟨rfl, rfl⟩)
          | (rw [e3 c1 c8, if_pos rfl, if_pos rfl, if_neg hlt, if_neg hlt]; exact ⟨rfl, rfl⟩)
        · cases c22
      · refine Run.bipush (v := -2) d_PM_write_11 bp_m2 ?_
        refine Run.iret d_PM_write_13 rfl rfl ?_
        first
        | (rw [e1 c1]; exact ⟨rfl, rfl⟩)
        | (rw [e2 c8]; exact ⟨rfl, rfl⟩)
        | (rw [e3 c1 c8, if_pos rfl, if_pos rfl, if_neg hlt, if_neg hlt]; exact ⟨rfl, rfl⟩)
theorem q_PM_wipe {n : Nat} {f : FI} : Call X d 0 0 M_PM_wipe [.ref 1] (hX (f, nI n) ca cb kt kd sd nw tr ac tu gi mo dn ch s0 s1 ++ t) (Ret (.int (nI n)) (hX (f, nI 0) ca cb kt kd sd nw tr ac tu gi mo dn ch s0 s1 ++ t)) := by
  show Run X d 0 0 M_PM_wipe 0 [some (.ref 1), none] [] _ _
  refine Run.aload_n d_PM_wipe_0 rfl ?_
  refine Run.getf d_PM_wipe_1 fl_PM_12 (by first | rfl | assumption) (by rfl) ?_
  refine Run.getf d_PM_wipe_4 fl_PM_79 (by first | rfl | assumption) (by rfl) ?_
  refine Run.istore_n d_PM_wipe_7 rfl rfl ?_
  show Run _ _ _ _ _ _ [_, _] _ _ _
  refine Run.aload_n d_PM_wipe_8 rfl ?_
  refine Run.getf d_PM_wipe_9 fl_PM_12 (by first | rfl | assumption) (by rfl) ?_
  refine Run.iconst (v := nI 0) d_PM_wipe_12 ic_0 ?_
  refine Run.putf d_PM_wipe_13 fl_PM_79 (fun _ => rfl) (fun _ => rfl) (by first | rfl | assumption) (by exact Nat.le_of_ble_eq_true rfl) ?_
  refine Run.iload_n d_PM_wipe_16 rfl ?_
  refine Run.iret d_PM_wipe_17 rfl rfl ?_
  exact ⟨rfl, rfl⟩
/-- one more or one less, by 8 -/
def tiN (a : Nat) (b : Bool) : Nat := (a + (if b = true then 1 else 7)) % 8
theorem m8_p1 (a : Nat) : m8 (nI a + nI 1) = (a + 1) % 8 := by rw [nI_add, m8_nI]
theorem m8_m1 (a : Nat) : m8 (nI a + -1) = (a + 7) % 8 := by
  rw [m8_add, m8_nI, show m8 (-1) = 7 from by decide +kernel]
  omega
theorem q_PM_hour {l hh n : Nat} {ft fw row : FI} {ke : Int32} (hn : n ≤ 14) : Call X (d + 3) 0 0 M_PM_hour [.ref 1] (hX tx ca cb kt kd sd (ft, fw, nI l, nI hh, ke) tr (row, nI n) tu gi mo dn ch s0 s1 ++ t) (Ret (.int (nI ((l + 1) % 8))) (hX tx ca cb kt kd sd (ft, fw, nI ((l + 1) % 8), nI (hh + 1), ke) tr ((acA row n (nI 300)).1, nI (acA row n (nI 300)).2) tu gi mo dn ch s0 s1 ++ t)) := by
  show Run X (d + 3) 0 0 M_PM_hour 0 [some (.ref 1)] [] _ _
  refine Run.aload_n d_PM_hour_0 rfl ?_
  refine Run.getf d_PM_hour_1 fl_PM_29 (by first | rfl | assumption) (by rfl) ?_
  refine Run.iconst (v := nI 1) d_PM_hour_4 ic_1 ?_
  refine Run.V1v d_PM_hour_5 lk_PM_173 cm_St_passHours iv_St_passHours rfl (by first | rfl | assumption) (Nat.le_of_ble_eq_true rfl) (Nat.le_of_ble_eq_true rfl) (c_St_passHours (k := 15) (li := nI l) (ho := nI hh) rfl) ?_
  rw [m8_p1, nI_add]
  refine Run.aload_n d_PM_hour_8 rfl ?_
  refine Run.getf d_PM_hour_9 fl_PM_43 (by first | rfl | assumption) (by rfl) ?_
  refine Run.iconst (v := nI 3) d_PM_hour_12 ic_3 ?_
  refine Run.iconst (v := nI 0) d_PM_hour_13 ic_0 ?_
  refine Run.iconst (v := nI 0) d_PM_hour_14 ic_0 ?_
  refine Run.V3v d_PM_hour_15 lk_PM_170 cm_Ac_add iv_Ac_add rfl (by first | rfl | assumption) (Nat.le_of_ble_eq_true rfl) (Nat.le_of_ble_eq_true rfl) (c_Ac_add (k := 22) (n := n) (f := row) rfl rfl hn) ?_
  refine Run.aload_n d_PM_hour_18 rfl ?_
  refine Run.getf d_PM_hour_19 fl_PM_29 (by first | rfl | assumption) (by rfl) ?_
  refine Run.getf d_PM_hour_22 fl_PM_104 (by first | rfl | assumption) (by rfl) ?_
  refine Run.iret d_PM_hour_25 rfl rfl ?_
  exact ⟨rfl, rfl⟩
theorem q_PM_tilt0 {x : Int32} {b : Bool} (ht : TR c ca cb kt kd) (hx : inB x (npC c) = false) : Call X (d + 2) 0 0 M_PM_tilt [.ref 1, .int x, .int (bI b)] (hX tx ca cb kt kd sd nw tr ac tu gi mo dn ch s0 s1 ++ t) (Ret (.int (-1)) (hX tx ca cb kt kd sd nw tr ac tu gi mo dn ch s0 s1 ++ t)) := by
  show Run X (d + 2) 0 0 M_PM_tilt 0 [some (.ref 1), some (.int x), some (.int (bI b))] [] _ _
  have hco := TR.at (tx := tx) (sd := sd) (nw := nw) (tr := tr) (ac := ac) (tu := tu) (gi := gi) (mo := mo) (dn := dn) (ch := ch) (s0 := s0) (s1 := s1) (t := t) ht
  obtain ⟨fhk, fpt, fan, fkd, fhd, li, g0, -⟩ := id hco
  refine Run.aload_n d_PM_tilt_0 rfl ?_
  refine Run.getf d_PM_tilt_1 fl_PM_19 (by first | rfl | assumption) (by rfl) ?_
  refine Run.iload_n d_PM_tilt_4 rfl ?_
  refine Run.V1r d_PM_tilt_5 lk_PM_133 cm_Co_hasPiece iv_Co_hasPiece rfl (by first | rfl | assumption) (Nat.le_of_ble_eq_true rfl) (Nat.le_of_ble_eq_true rfl) (c_Co_hasPiece hco) ?_
  first | refine Run.if_ne_b d_PM_tilt_8 (fun c8 => ?_) (fun c8 => ?_) | refine Run.if_ne_n d_PM_tilt_8 (by omega) (fun c8 => ?_) (fun c8 => ?_) | refine Run.if_ne d_PM_tilt_8 (fun c8 => ?_) (fun c8 => ?_)
  · rw [hx] at c8; cases c8
  · refine Run.iconst (v := -1) d_PM_tilt_11 ic_m1 ?_
    refine Run.iret d_PM_tilt_12 rfl rfl ?_
    exact ⟨rfl, rfl⟩
theorem q_PM_tilt {i T n : Nat} {b : Bool} {ft fw row : FI} {li ho ke : Int32} (ht : TR c ca cb kt kd) (hc : coOK c) (hi : i < npC c) (hT : ft i = nI T) (hn : n ≤ 14) : Call X (d + 3) 0 0 M_PM_tilt [.ref 1, .int (nI i), .int (bI b)] (hX tx ca cb kt kd sd (ft, fw, li, ho, ke) tr (row, nI n) tu gi mo dn ch s0 s1 ++ t) (Ret (.int (nI (tiN T b))) (hX tx ca cb kt kd sd (upd ft i (nI (tiN T b)), fw, li, ho, ke) tr ((acA row n (nI (100 * 1 + 10 * i + (if b = true then 1 else 0)))).1, nI (acA row n (nI (100 * 1 + 10 * i + (if b = true then 1 else 0)))).2) tu gi mo dn ch s0 s1 ++ t)) := by
  show Run X (d + 3) 0 0 M_PM_tilt 0 [some (.ref 1), some (.int (nI i)), some (.int (bI b))] [] _ _
  have hco := TR.at (tx := tx) (sd := sd) (nw := (ft, fw, li, ho, ke)) (tr := tr) (ac := (row, nI n)) (tu := tu) (gi := gi) (mo := mo) (dn := dn) (ch := ch) (s0 := s0) (s1 := s1) (t := t) ht
  obtain ⟨fhk, fpt, fan, fkd, fhd, li2, g0, -⟩ := id hco
  have b2 := hc.2.1
  cases b with
  | true =>
    refine Run.aload_n d_PM_tilt_0 rfl ?_
    refine Run.getf d_PM_tilt_1 fl_PM_19 (by first | rfl | assumption) (by rfl) ?_
    refine Run.iload_n d_PM_tilt_4 rfl ?_
    refine Run.V1r d_PM_tilt_5 lk_PM_133 cm_Co_hasPiece iv_Co_hasPiece rfl (by first | rfl | assumption) (Nat.le_of_ble_eq_true rfl) (Nat.le_of_ble_eq_true rfl) (c_Co_hasPiece hco) ?_
    first | refine Run.if_ne_b d_PM_tilt_8 (fun c8 => ?_) (fun c8 => ?_) | refine Run.if_ne_n d_PM_tilt_8 (by omega) (fun c8 => ?_) (fun c8 => ?_) | refine Run.if_ne d_PM_tilt_8 (fun c8 => ?_) (fun c8 => ?_)
    · refine Run.aload_n d_PM_tilt_13 rfl ?_
      refine Run.getf d_PM_tilt_14 fl_PM_29 (by first | rfl | assumption) (by rfl) ?_
      refine Run.iload_n d_PM_tilt_17 rfl ?_
      refine Run.iload_n d_PM_tilt_18 rfl ?_
      first | refine Run.if_eq_b d_PM_tilt_19 (fun c19 => ?_) (fun c19 => ?_) | refine Run.if_eq_n d_PM_tilt_19 (by omega) (fun c19 => ?_) (fun c19 => ?_) | refine Run.if_eq d_PM_tilt_19 (fun c19 => ?_) (fun c19 => ?_)
      · cases c19
      · refine Run.iconst (v := nI 1) d_PM_tilt_22 ic_1 ?_
        refine Run.goto d_PM_tilt_23 ?_
        refine Run.V2v d_PM_tilt_27 lk_PM_166 cm_St_tiltBy iv_St_tiltBy rfl (by first | rfl | assumption) (Nat.le_of_ble_eq_true rfl) (Nat.le_of_ble_eq_true rfl) (c_St_tiltBy (k := 15) (ft := ft) rfl rfl (by omega)) ?_
        rw [hT, m8_p1]
        refine Run.aload_n d_PM_tilt_30 rfl ?_
        refine Run.getf d_PM_tilt_31 fl_PM_43 (by first | rfl | assumption) (by rfl) ?_
        refine Run.iconst (v := nI 1) d_PM_tilt_34 ic_1 ?_
        refine Run.iload_n d_PM_tilt_35 rfl ?_
        refine Run.iload_n d_PM_tilt_36 rfl ?_
        first | refine Run.if_eq_b d_PM_tilt_37 (fun c37 => ?_) (fun c37 => ?_) | refine Run.if_eq_n d_PM_tilt_37 (by omega) (fun c37 => ?_) (fun c37 => ?_) | refine Run.if_eq d_PM_tilt_37 (fun c37 => ?_) (fun c37 => ?_)
        · cases c37
        · refine Run.iconst (v := nI 1) d_PM_tilt_40 ic_1 ?_
          refine Run.goto d_PM_tilt_41 ?_
          refine Run.V3v d_PM_tilt_45 lk_PM_170 cm_Ac_add iv_Ac_add rfl (by first | rfl | assumption) (Nat.le_of_ble_eq_true rfl) (Nat.le_of_ble_eq_true rfl) (c_Ac_add (k := 22) (n := n) (f := row) rfl rfl hn) ?_
          refine Run.aload_n d_PM_tilt_48 rfl ?_
          refine Run.getf d_PM_tilt_49 fl_PM_29 (by first | rfl | assumption) (by rfl) ?_
          refine Run.getf d_PM_tilt_52 fl_PM_145 (by first | rfl | assumption) (by rfl) ?_
          refine Run.iload_n d_PM_tilt_55 rfl ?_
          refine Run.iald_n d_PM_tilt_56 (by first | rfl | assumption) (by omega) (by omega) ?_
          rw [pk_us]
          refine Run.iret d_PM_tilt_57 rfl rfl ?_
          exact ⟨rfl, rfl⟩
    · rw [inB_nI (by omega) (by omega), decide_eq_true hi] at c8; cases c8
  | false =>
    refine Run.aload_n d_PM_tilt_0 rfl ?_
    refine Run.getf d_PM_tilt_1 fl_PM_19 (by first | rfl | assumption) (by rfl) ?_
    refine Run.iload_n d_PM_tilt_4 rfl ?_
    refine Run.V1r d_PM_tilt_5 lk_PM_133 cm_Co_hasPiece iv_Co_hasPiece rfl (by first | rfl | assumption) (Nat.le_of_ble_eq_true rfl) (Nat.le_of_ble_eq_true rfl) (c_Co_hasPiece hco) ?_
    first | refine Run.if_ne_b d_PM_tilt_8 (fun c8 => ?_) (fun c8 => ?_) | refine Run.if_ne_n d_PM_tilt_8 (by omega) (fun c8 => ?_) (fun c8 => ?_) | refine Run.if_ne d_PM_tilt_8 (fun c8 => ?_) (fun c8 => ?_)
    · refine Run.aload_n d_PM_tilt_13 rfl ?_
      refine Run.getf d_PM_tilt_14 fl_PM_29 (by first | rfl | assumption) (by rfl) ?_
      refine Run.iload_n d_PM_tilt_17 rfl ?_
      refine Run.iload_n d_PM_tilt_18 rfl ?_
      first | refine Run.if_eq_b d_PM_tilt_19 (fun c19 => ?_) (fun c19 => ?_) | refine Run.if_eq_n d_PM_tilt_19 (by omega) (fun c19 => ?_) (fun c19 => ?_) | refine Run.if_eq d_PM_tilt_19 (fun c19 => ?_) (fun c19 => ?_)
      · refine Run.iconst (v := -1) d_PM_tilt_26 ic_m1 ?_
        refine Run.V2v d_PM_tilt_27 lk_PM_166 cm_St_tiltBy iv_St_tiltBy rfl (by first | rfl | assumption) (Nat.le_of_ble_eq_true rfl) (Nat.le_of_ble_eq_true rfl) (c_St_tiltBy (k := 15) (ft := ft) rfl rfl (by omega)) ?_
        rw [hT, m8_m1]
        refine Run.aload_n d_PM_tilt_30 rfl ?_
        refine Run.getf d_PM_tilt_31 fl_PM_43 (by first | rfl | assumption) (by rfl) ?_
        refine Run.iconst (v := nI 1) d_PM_tilt_34 ic_1 ?_
        refine Run.iload_n d_PM_tilt_35 rfl ?_
        refine Run.iload_n d_PM_tilt_36 rfl ?_
        first | refine Run.if_eq_b d_PM_tilt_37 (fun c37 => ?_) (fun c37 => ?_) | refine Run.if_eq_n d_PM_tilt_37 (by omega) (fun c37 => ?_) (fun c37 => ?_) | refine Run.if_eq d_PM_tilt_37 (fun c37 => ?_) (fun c37 => ?_)
        · refine Run.iconst (v := nI 0) d_PM_tilt_44 ic_0 ?_
          refine Run.V3v d_PM_tilt_45 lk_PM_170 cm_Ac_add iv_Ac_add rfl (by first | rfl | assumption) (Nat.le_of_ble_eq_true rfl) (Nat.le_of_ble_eq_true rfl) (c_Ac_add (k := 22) (n := n) (f := row) rfl rfl hn) ?_
          refine Run.aload_n d_PM_tilt_48 rfl ?_
          refine Run.getf d_PM_tilt_49 fl_PM_29 (by first | rfl | assumption) (by rfl) ?_
          refine Run.getf d_PM_tilt_52 fl_PM_145 (by first | rfl | assumption) (by rfl) ?_
          refine Run.iload_n d_PM_tilt_55 rfl ?_
          refine Run.iald_n d_PM_tilt_56 (by first | rfl | assumption) (by omega) (by omega) ?_
          rw [pk_us]
          refine Run.iret d_PM_tilt_57 rfl rfl ?_
          exact ⟨rfl, rfl⟩
        · cases c37
      · cases c19
    · rw [inB_nI (by omega) (by omega), decide_eq_true hi] at c8; cases c8
theorem q_PM_give0 {x y : Int32} (ht : TR c ca cb kt kd) (hx : (inB x (npC c) && inB y (nhC c)) = false) : Call X (d + 2) 0 0 M_PM_give [.ref 1, .int x, .int y] (hX tx ca cb kt kd sd nw tr ac tu gi mo dn ch s0 s1 ++ t) (Ret (.int (-1)) (hX tx ca cb kt kd sd nw tr ac tu gi mo dn ch s0 s1 ++ t)) := by
  show Run X (d + 2) 0 0 M_PM_give 0 [some (.ref 1), some (.int x), some (.int y), none] [] _ _
  have hco := TR.at (tx := tx) (sd := sd) (nw := nw) (tr := tr) (ac := ac) (tu := tu) (gi := gi) (mo := mo) (dn := dn) (ch := ch) (s0 := s0) (s1 := s1) (t := t) ht
  obtain ⟨fhk, fpt, fan, fkd, fhd, li, g0, -⟩ := id hco
  refine Run.aload_n d_PM_give_0 rfl ?_
  refine Run.getf d_PM_give_1 fl_PM_19 (by first | rfl | assumption) (by rfl) ?_
  refine Run.iload_n d_PM_give_4 rfl ?_
  refine Run.V1r d_PM_give_5 lk_PM_133 cm_Co_hasPiece iv_Co_hasPiece rfl (by first | rfl | assumption) (Nat.le_of_ble_eq_true rfl) (Nat.le_of_ble_eq_true rfl) (c_Co_hasPiece hco) ?_
  first | refine Run.if_eq_b d_PM_give_8 (fun c8 => ?_) (fun c8 => ?_) | refine Run.if_eq_n d_PM_give_8 (by omega) (fun c8 => ?_) (fun c8 => ?_) | refine Run.if_eq d_PM_give_8 (fun c8 => ?_) (fun c8 => ?_)
  · refine Run.iconst (v := -1) d_PM_give_22 ic_m1 ?_
    refine Run.iret d_PM_give_23 rfl rfl ?_
    exact ⟨rfl, rfl⟩
  · refine Run.aload_n d_PM_give_11 rfl ?_
    refine Run.getf d_PM_give_12 fl_PM_19 (by first | rfl | assumption) (by rfl) ?_
    refine Run.iload_n d_PM_give_15 rfl ?_
    refine Run.V1r d_PM_give_16 lk_PM_119 cm_Co_hasHolder iv_Co_hasHolder rfl (by first | rfl | assumption) (Nat.le_of_ble_eq_true rfl) (Nat.le_of_ble_eq_true rfl) (c_Co_hasHolder hco) ?_
    first | refine Run.if_ne_b d_PM_give_19 (fun c19 => ?_) (fun c19 => ?_) | refine Run.if_ne_n d_PM_give_19 (by omega) (fun c19 => ?_) (fun c19 => ?_) | refine Run.if_ne d_PM_give_19 (fun c19 => ?_) (fun c19 => ?_)
    · rw [c8, c19] at hx; cases hx
    · refine Run.iconst (v := -1) d_PM_give_22 ic_m1 ?_
      refine Run.iret d_PM_give_23 rfl rfl ?_
      exact ⟨rfl, rfl⟩
theorem q_PM_give1 {i j : Nat} {ft fw : FI} {li ho ke : Int32} (ht : TR c ca cb kt kd) (hc : coOK c) (hi : i < npC c) (hj : j < nhC c) (hW : fw i = nI j) : Call X (d + 2) 0 0 M_PM_give [.ref 1, .int (nI i), .int (nI j)] (hX tx ca cb kt kd sd (ft, fw, li, ho, ke) tr ac tu gi mo dn ch s0 s1 ++ t) (Ret (.int (-3)) (hX tx ca cb kt kd sd (ft, fw, li, ho, ke) tr ac tu gi mo dn ch s0 s1 ++ t)) := by
  show Run X (d + 2) 0 0 M_PM_give 0 [some (.ref 1), some (.int (nI i)), some (.int (nI j)), none] [] _ _
  have hco := TR.at (tx := tx) (sd := sd) (nw := (ft, fw, li, ho, ke)) (tr := tr) (ac := ac) (tu := tu) (gi := gi) (mo := mo) (dn := dn) (ch := ch) (s0 := s0) (s1 := s1) (t := t) ht
  obtain ⟨fhk, fpt, fan, fkd, fhd, li2, g0, -⟩ := id hco
  have b1 := hc.1
  have b2 := hc.2.1
  refine Run.aload_n d_PM_give_0 rfl ?_
  refine Run.getf d_PM_give_1 fl_PM_19 (by first | rfl | assumption) (by rfl) ?_
  refine Run.iload_n d_PM_give_4 rfl ?_
  refine Run.V1r d_PM_give_5 lk_PM_133 cm_Co_hasPiece iv_Co_hasPiece rfl (by first | rfl | assumption) (Nat.le_of_ble_eq_true rfl) (Nat.le_of_ble_eq_true rfl) (c_Co_hasPiece hco) ?_
  first | refine Run.if_eq_b d_PM_give_8 (fun c8 => ?_) (fun c8 => ?_) | refine Run.if_eq_n d_PM_give_8 (by omega) (fun c8 => ?_) (fun c8 => ?_) | refine Run.if_eq d_PM_give_8 (fun c8 => ?_) (fun c8 => ?_)
  · rw [inB_nI (by omega) (by omega), decide_eq_true hi] at c8; cases c8
  · refine Run.aload_n d_PM_give_11 rfl ?_
    refine Run.getf d_PM_give_12 fl_PM_19 (by first | rfl | assumption) (by rfl) ?_
    refine Run.iload_n d_PM_give_15 rfl ?_
    refine Run.V1r d_PM_give_16 lk_PM_119 cm_Co_hasHolder iv_Co_hasHolder rfl (by first | rfl | assumption) (Nat.le_of_ble_eq_true rfl) (Nat.le_of_ble_eq_true rfl) (c_Co_hasHolder hco) ?_
    first | refine Run.if_ne_b d_PM_give_19 (fun c19 => ?_) (fun c19 => ?_) | refine Run.if_ne_n d_PM_give_19 (by omega) (fun c19 => ?_) (fun c19 => ?_) | refine Run.if_ne d_PM_give_19 (fun c19 => ?_) (fun c19 => ?_)
    · refine Run.aload_n d_PM_give_24 rfl ?_
      refine Run.getf d_PM_give_25 fl_PM_29 (by first | rfl | assumption) (by rfl) ?_
      refine Run.getf d_PM_give_28 fl_PM_148 (by first | rfl | assumption) (by rfl) ?_
      refine Run.iload_n d_PM_give_31 rfl ?_
      refine Run.iald_n d_PM_give_32 (by first | rfl | assumption) (by omega) (by omega) ?_
      rw [show (ft, fw, li, ho, ke).2.1 i = nI j from hW]
      refine Run.istore_n d_PM_give_33 rfl rfl ?_
      show Run _ _ _ _ _ _ [_, _, _, _] _ _ _
      refine Run.iload_n d_PM_give_34 rfl ?_
      refine Run.iload_n d_PM_give_35 rfl ?_
      first | refine Run.icmp_ne_n d_PM_give_36 (by omega) (by omega) (fun c36 => ?_) (fun c36 => ?_) | refine Run.icmp_ne d_PM_give_36 (fun c36 => ?_) (fun c36 => ?_)
      · exact absurd rfl c36
      · refine Run.bipush (v := -3) d_PM_give_39 bp_m3 ?_
        refine Run.iret d_PM_give_41 rfl rfl ?_
        exact ⟨rfl, rfl⟩
    · rw [inB_nI (by omega) (by omega), decide_eq_true hj] at c19; cases c19
theorem q_PM_give {i j W n : Nat} {ft fw row : FI} {li ho ke : Int32} (ht : TR c ca cb kt kd) (hc : coOK c) (hi : i < npC c) (hj : j < nhC c) (hW : fw i = nI W) (hW4 : W < 4) (hne : ¬ W = j) (hn : n ≤ 14) : Call X (d + 2) 0 0 M_PM_give [.ref 1, .int (nI i), .int (nI j)] (hX tx ca cb kt kd sd (ft, fw, li, ho, ke) tr (row, nI n) tu gi mo dn ch s0 s1 ++ t) (Ret (.int (nI W)) (hX tx ca cb kt kd sd (ft, upd fw i (nI j), li, ho, ke) tr ((acA row n (nI (100 * 2 + 10 * i + W))).1, nI (acA row n (nI (100 * 2 + 10 * i + W))).2) tu gi mo dn ch s0 s1 ++ t)) := by
  show Run X (d + 2) 0 0 M_PM_give 0 [some (.ref 1), some (.int (nI i)), some (.int (nI j)), none] [] _ _
  have hco := TR.at (tx := tx) (sd := sd) (nw := (ft, fw, li, ho, ke)) (tr := tr) (ac := (row, nI n)) (tu := tu) (gi := gi) (mo := mo) (dn := dn) (ch := ch) (s0 := s0) (s1 := s1) (t := t) ht
  obtain ⟨fhk, fpt, fan, fkd, fhd, li2, g0, -⟩ := id hco
  have b1 := hc.1
  have b2 := hc.2.1
  refine Run.aload_n d_PM_give_0 rfl ?_
  refine Run.getf d_PM_give_1 fl_PM_19 (by first | rfl | assumption) (by rfl) ?_
  refine Run.iload_n d_PM_give_4 rfl ?_
  refine Run.V1r d_PM_give_5 lk_PM_133 cm_Co_hasPiece iv_Co_hasPiece rfl (by first | rfl | assumption) (Nat.le_of_ble_eq_true rfl) (Nat.le_of_ble_eq_true rfl) (c_Co_hasPiece hco) ?_
  first | refine Run.if_eq_b d_PM_give_8 (fun c8 => ?_) (fun c8 => ?_) | refine Run.if_eq_n d_PM_give_8 (by omega) (fun c8 => ?_) (fun c8 => ?_) | refine Run.if_eq d_PM_give_8 (fun c8 => ?_) (fun c8 => ?_)
  · rw [inB_nI (by omega) (by omega), decide_eq_true hi] at c8; cases c8
  · refine Run.aload_n d_PM_give_11 rfl ?_
    refine Run.getf d_PM_give_12 fl_PM_19 (by first | rfl | assumption) (by rfl) ?_
    refine Run.iload_n d_PM_give_15 rfl ?_
    refine Run.V1r d_PM_give_16 lk_PM_119 cm_Co_hasHolder iv_Co_hasHolder rfl (by first | rfl | assumption) (Nat.le_of_ble_eq_true rfl) (Nat.le_of_ble_eq_true rfl) (c_Co_hasHolder hco) ?_
    first | refine Run.if_ne_b d_PM_give_19 (fun c19 => ?_) (fun c19 => ?_) | refine Run.if_ne_n d_PM_give_19 (by omega) (fun c19 => ?_) (fun c19 => ?_) | refine Run.if_ne d_PM_give_19 (fun c19 => ?_) (fun c19 => ?_)
    · refine Run.aload_n d_PM_give_24 rfl ?_
      refine Run.getf d_PM_give_25 fl_PM_29 (by first | rfl | assumption) (by rfl) ?_
      refine Run.getf d_PM_give_28 fl_PM_148 (by first | rfl | assumption) (by rfl) ?_
      refine Run.iload_n d_PM_give_31 rfl ?_
      refine Run.iald_n d_PM_give_32 (by first | rfl | assumption) (by omega) (by omega) ?_
      rw [show (ft, fw, li, ho, ke).2.1 i = nI W from hW]
      refine Run.istore_n d_PM_give_33 rfl rfl ?_
      show Run _ _ _ _ _ _ [_, _, _, _] _ _ _
      refine Run.iload_n d_PM_give_34 rfl ?_
      refine Run.iload_n d_PM_give_35 rfl ?_
      first | refine Run.icmp_ne_n d_PM_give_36 (by omega) (by omega) (fun c36 => ?_) (fun c36 => ?_) | refine Run.icmp_ne d_PM_give_36 (fun c36 => ?_) (fun c36 => ?_)
      · refine Run.aload_n d_PM_give_42 rfl ?_
        refine Run.getf d_PM_give_43 fl_PM_29 (by first | rfl | assumption) (by rfl) ?_
        refine Run.getf d_PM_give_46 fl_PM_148 (by first | rfl | assumption) (by rfl) ?_
        refine Run.iload_n d_PM_give_49 rfl ?_
        refine Run.iload_n d_PM_give_50 rfl ?_
        refine Run.iast_n d_PM_give_51 (by first | rfl | assumption) (by omega) (by omega) ?_
        refine Run.aload_n d_PM_give_52 rfl ?_
        refine Run.getf d_PM_give_53 fl_PM_43 (by first | rfl | assumption) (by rfl) ?_
        refine Run.iconst (v := nI 2) d_PM_give_56 ic_2 ?_
        refine Run.iload_n d_PM_give_57 rfl ?_
        refine Run.iload_n d_PM_give_58 rfl ?_
        refine Run.V3v d_PM_give_59 lk_PM_170 cm_Ac_add iv_Ac_add rfl (by first | rfl | assumption) (Nat.le_of_ble_eq_true rfl) (Nat.le_of_ble_eq_true rfl) (c_Ac_add (k := 22) (n := n) (f := row) rfl rfl hn) ?_
        refine Run.iload_n d_PM_give_62 rfl ?_
        refine Run.iret d_PM_give_63 rfl rfl ?_
        exact ⟨rfl, rfl⟩
      · exact absurd c36 hne
    · rw [inB_nI (by omega) (by omega), decide_eq_true hj] at c19; cases c19
theorem q_PM_back1 {i b T : Nat} {ft fw : FI} {li ho ke : Int32} (hi : i < 6) (hb : b < 2) (hT : ft i = nI T) : Call X (d + 2) 0 0 M_PM_takeBack [.ref 1, .int (nI (100 * 1 + 10 * i + b))] (hX tx ca cb kt kd sd (ft, fw, li, ho, ke) tr ac tu gi mo dn ch s0 s1 ++ t) (Rv (hX tx ca cb kt kd sd (upd ft i (nI ((T + (if b = 1 then 7 else 1)) % 8)), fw, li, ho, ke) tr ac tu gi mo dn ch s0 s1 ++ t)) := by
  show Run X (d + 2) 0 0 M_PM_takeBack 0 [some (.ref 1), some (.int (nI (100 * 1 + 10 * i + b))), none, none] [] _ _
  refine Run.iload_n d_PM_takeBack_0 rfl ?_
  refine Run.bipush (v := nI 10) d_PM_takeBack_1 bp_10 ?_
  first | refine Run.idiv_n d_PM_takeBack_3 (by omega) (by omega) (by omega) ?_ | refine Run.idiv d_PM_takeBack_3 (by decide +kernel) ?_
  refine Run.bipush (v := nI 10) d_PM_takeBack_4 bp_10 ?_
  first | refine Run.irem_n d_PM_takeBack_6 (by omega) (by omega) (by omega) ?_ | refine Run.irem d_PM_takeBack_6 (by decide +kernel) ?_
  rw [show (100 * 1 + 10 * i + b) / 10 % 10 = i by omega]
  refine Run.istore_n d_PM_takeBack_7 rfl rfl ?_
  show Run _ _ _ _ _ _ [_, _, _, _] _ _ _
  refine Run.iload_n d_PM_takeBack_8 rfl ?_
  refine Run.bipush (v := nI 10) d_PM_takeBack_9 bp_10 ?_
  first | refine Run.irem_n d_PM_takeBack_11 (by omega) (by omega) (by omega) ?_ | refine Run.irem d_PM_takeBack_11 (by decide +kernel) ?_
  rw [show (100 * 1 + 10 * i + b) % 10 = b by omega]
  refine Run.istore_n d_PM_takeBack_12 rfl rfl ?_
  show Run _ _ _ _ _ _ [_, _, _, _] _ _ _
  refine Run.iload_n d_PM_takeBack_13 rfl ?_
  refine Run.bipush (v := nI 100) d_PM_takeBack_14 bp_100 ?_
  first | refine Run.idiv_n d_PM_takeBack_16 (by omega) (by omega) (by omega) ?_ | refine Run.idiv d_PM_takeBack_16 (by decide +kernel) ?_
  rw [show (100 * 1 + 10 * i + b) / 100 = 1 by omega]
  refine Run.lsw (off := 27) (tgt := 44) d_PM_takeBack_17 (by decide +kernel) (by decide +kernel) rfl ?_
  refine Run.aload_n d_PM_takeBack_44 rfl ?_
  refine Run.getf d_PM_takeBack_45 fl_PM_29 (by first | rfl | assumption) (by rfl) ?_
  refine Run.iload_n d_PM_takeBack_48 rfl ?_
  refine Run.iload_n d_PM_takeBack_49 rfl ?_
  refine Run.iconst (v := nI 1) d_PM_takeBack_50 ic_1 ?_
  first | refine Run.icmp_ne_n d_PM_takeBack_51 (by omega) (by omega) (fun c51 => ?_) (fun c51 => ?_) | refine Run.icmp_ne d_PM_takeBack_51 (fun c51 => ?_) (fun c51 => ?_)
  · refine Run.iconst (v := nI 1) d_PM_takeBack_58 ic_1 ?_
    refine Run.V2v d_PM_takeBack_59 lk_PM_166 cm_St_tiltBy iv_St_tiltBy rfl (by first | rfl | assumption) (Nat.le_of_ble_eq_true rfl) (Nat.le_of_ble_eq_true rfl) (c_St_tiltBy (k := 15) (ft := ft) rfl rfl (by omega)) ?_
    refine Run.goto d_PM_takeBack_62 ?_
    refine Run.vret d_PM_takeBack_85 rfl ?_
    first
    | (rw [if_pos c51, hT, m8_m1]; exact ⟨rfl, rfl⟩)
    | (rw [if_neg c51, hT, m8_p1]; exact ⟨rfl, rfl⟩)
  · refine Run.iconst (v := -1) d_PM_takeBack_54 ic_m1 ?_
    refine Run.goto d_PM_takeBack_55 ?_
    refine Run.V2v d_PM_takeBack_59 lk_PM_166 cm_St_tiltBy iv_St_tiltBy rfl (by first | rfl | assumption) (Nat.le_of_ble_eq_true rfl) (Nat.le_of_ble_eq_true rfl) (c_St_tiltBy (k := 15) (ft := ft) rfl rfl (by omega)) ?_
    refine Run.goto d_PM_takeBack_62 ?_
    refine Run.vret d_PM_takeBack_85 rfl ?_
    first
    | (rw [if_pos c51, hT, m8_m1]; exact ⟨rfl, rfl⟩)
    | (rw [if_neg c51, hT, m8_p1]; exact ⟨rfl, rfl⟩)
theorem q_PM_back2 {i j : Nat} {ft fw : FI} {li ho ke : Int32} (hi : i < 6) (hj : j < 4) : Call X (d + 2) 0 0 M_PM_takeBack [.ref 1, .int (nI (100 * 2 + 10 * i + j))] (hX tx ca cb kt kd sd (ft, fw, li, ho, ke) tr ac tu gi mo dn ch s0 s1 ++ t) (Rv (hX tx ca cb kt kd sd (ft, upd fw i (nI j), li, ho, ke) tr ac tu gi mo dn ch s0 s1 ++ t)) := by
  show Run X (d + 2) 0 0 M_PM_takeBack 0 [some (.ref 1), some (.int (nI (100 * 2 + 10 * i + j))), none, none] [] _ _
  refine Run.iload_n d_PM_takeBack_0 rfl ?_
  refine Run.bipush (v := nI 10) d_PM_takeBack_1 bp_10 ?_
  first | refine Run.idiv_n d_PM_takeBack_3 (by omega) (by omega) (by omega) ?_ | refine Run.idiv d_PM_takeBack_3 (by decide +kernel) ?_
  refine Run.bipush (v := nI 10) d_PM_takeBack_4 bp_10 ?_
  first | refine Run.irem_n d_PM_takeBack_6 (by omega) (by omega) (by omega) ?_ | refine Run.irem d_PM_takeBack_6 (by decide +kernel) ?_
  rw [show (100 * 2 + 10 * i + j) / 10 % 10 = i by omega]
  refine Run.istore_n d_PM_takeBack_7 rfl rfl ?_
  show Run _ _ _ _ _ _ [_, _, _, _] _ _ _
  refine Run.iload_n d_PM_takeBack_8 rfl ?_
  refine Run.bipush (v := nI 10) d_PM_takeBack_9 bp_10 ?_
  first | refine Run.irem_n d_PM_takeBack_11 (by omega) (by omega) (by omega) ?_ | refine Run.irem d_PM_takeBack_11 (by decide +kernel) ?_
  rw [show (100 * 2 + 10 * i + j) % 10 = j by omega]
  refine Run.istore_n d_PM_takeBack_12 rfl rfl ?_
  show Run _ _ _ _ _ _ [_, _, _, _] _ _ _
  refine Run.iload_n d_PM_takeBack_13 rfl ?_
  refine Run.bipush (v := nI 100) d_PM_takeBack_14 bp_100 ?_
  first | refine Run.idiv_n d_PM_takeBack_16 (by omega) (by omega) (by omega) ?_ | refine Run.idiv d_PM_takeBack_16 (by decide +kernel) ?_
  rw [show (100 * 2 + 10 * i + j) / 100 = 2 by omega]
  refine Run.lsw (off := 48) (tgt := 65) d_PM_takeBack_17 (by decide +kernel) (by decide +kernel) rfl ?_
  refine Run.aload_n d_PM_takeBack_65 rfl ?_
  refine Run.getf d_PM_takeBack_66 fl_PM_29 (by first | rfl | assumption) (by rfl) ?_
  refine Run.iload_n d_PM_takeBack_69 rfl ?_
  refine Run.iload_n d_PM_takeBack_70 rfl ?_
  refine Run.V2v d_PM_takeBack_71 lk_PM_287 cm_St_giveTo iv_St_giveTo rfl (by first | rfl | assumption) (Nat.le_of_ble_eq_true rfl) (Nat.le_of_ble_eq_true rfl) (c_St_giveTo (k := 15) (fw := fw) rfl rfl (by omega)) ?_
  refine Run.goto d_PM_takeBack_74 ?_
  refine Run.vret d_PM_takeBack_85 rfl ?_
  exact ⟨rfl, rfl⟩
theorem q_PM_back3 {l hh : Nat} {ft fw : FI} {ke : Int32} : Call X (d + 2) 0 0 M_PM_takeBack [.ref 1, .int (nI 300)] (hX tx ca cb kt kd sd (ft, fw, nI l, nI (hh + 1), ke) tr ac tu gi mo dn ch s0 s1 ++ t) (Rv (hX tx ca cb kt kd sd (ft, fw, nI ((l + 7) % 8), nI hh, ke) tr ac tu gi mo dn ch s0 s1 ++ t)) := by
  show Run X (d + 2) 0 0 M_PM_takeBack 0 [some (.ref 1), some (.int (nI 300)), none, none] [] _ _
  refine Run.iload_n d_PM_takeBack_0 rfl ?_
  refine Run.bipush (v := nI 10) d_PM_takeBack_1 bp_10 ?_
  first | refine Run.idiv_n d_PM_takeBack_3 (by omega) (by omega) (by omega) ?_ | refine Run.idiv d_PM_takeBack_3 (by decide +kernel) ?_
  refine Run.bipush (v := nI 10) d_PM_takeBack_4 bp_10 ?_
  first | refine Run.irem_n d_PM_takeBack_6 (by omega) (by omega) (by omega) ?_ | refine Run.irem d_PM_takeBack_6 (by decide +kernel) ?_
  refine Run.istore_n d_PM_takeBack_7 rfl rfl ?_
  show Run _ _ _ _ _ _ [_, _, _, _] _ _ _
  refine Run.iload_n d_PM_takeBack_8 rfl ?_
  refine Run.bipush (v := nI 10) d_PM_takeBack_9 bp_10 ?_
  first | refine Run.irem_n d_PM_takeBack_11 (by omega) (by omega) (by omega) ?_ | refine Run.irem d_PM_takeBack_11 (by decide +kernel) ?_
  refine Run.istore_n d_PM_takeBack_12 rfl rfl ?_
  show Run _ _ _ _ _ _ [_, _, _, _] _ _ _
  refine Run.iload_n d_PM_takeBack_13 rfl ?_
  refine Run.bipush (v := nI 100) d_PM_takeBack_14 bp_100 ?_
  first | refine Run.idiv_n d_PM_takeBack_16 (by omega) (by omega) (by omega) ?_ | refine Run.idiv d_PM_takeBack_16 (by decide +kernel) ?_
  rw [show 300 / 100 = 3 by omega]
  refine Run.lsw (off := 60) (tgt := 77) d_PM_takeBack_17 (by decide +kernel) (by decide +kernel) rfl ?_
  refine Run.aload_n d_PM_takeBack_77 rfl ?_
  refine Run.getf d_PM_takeBack_78 fl_PM_29 (by first | rfl | assumption) (by rfl) ?_
  refine Run.iconst (v := -1) d_PM_takeBack_81 ic_m1 ?_
  refine Run.V1v d_PM_takeBack_82 lk_PM_173 cm_St_passHours iv_St_passHours rfl (by first | rfl | assumption) (Nat.le_of_ble_eq_true rfl) (Nat.le_of_ble_eq_true rfl) (c_St_passHours (k := 15) (li := nI l) (ho := nI (hh + 1)) rfl) ?_
  rw [m8_m1, pk_m1]
  refine Run.vret d_PM_takeBack_85 rfl ?_
  exact ⟨rfl, rfl⟩
theorem q_PM_undo0 {row : FI} : Call X d 0 0 M_PM_undo [.ref 1] (hX tx ca cb kt kd sd nw tr (row, nI 0) tu gi mo dn ch s0 s1 ++ t) (Ret (.int (-3)) (hX tx ca cb kt kd sd nw tr (row, nI 0) tu gi mo dn ch s0 s1 ++ t)) := by
  show Run X d 0 0 M_PM_undo 0 [some (.ref 1)] [] _ _
  refine Run.aload_n d_PM_undo_0 rfl ?_
  refine Run.getf d_PM_undo_1 fl_PM_43 (by first | rfl | assumption) (by rfl) ?_
  refine Run.getf d_PM_undo_4 fl_PM_91 (by first | rfl | assumption) (by rfl) ?_
  first | refine Run.if_ne_b d_PM_undo_7 (fun c7 => ?_) (fun c7 => ?_) | refine Run.if_ne_n d_PM_undo_7 (by omega) (fun c7 => ?_) (fun c7 => ?_) | refine Run.if_ne d_PM_undo_7 (fun c7 => ?_) (fun c7 => ?_)
  · exact absurd rfl c7
  · refine Run.bipush (v := -3) d_PM_undo_10 bp_m3 ?_
    refine Run.iret d_PM_undo_12 rfl rfl ?_
    exact ⟨rfl, rfl⟩
theorem q_PM_undo {row : FI} {n : Nat} {nw2 : StS} (hn : n < 14) (hb : Call X (d + 2) 0 0 M_PM_takeBack [.ref 1, .int (row n)] (hX tx ca cb kt kd sd nw tr (row, nI n) tu gi mo dn ch s0 s1 ++ t) (Rv (hX tx ca cb kt kd sd nw2 tr (row, nI n) tu gi mo dn ch s0 s1 ++ t))) : Call X (d + 3) 0 0 M_PM_undo [.ref 1] (hX tx ca cb kt kd sd nw tr (row, nI (n + 1)) tu gi mo dn ch s0 s1 ++ t) (Ret (.int (nI n)) (hX tx ca cb kt kd sd nw2 tr (row, nI n) tu gi mo dn ch s0 s1 ++ t)) := by
  show Run X (d + 3) 0 0 M_PM_undo 0 [some (.ref 1)] [] _ _
  refine Run.aload_n d_PM_undo_0 rfl ?_
  refine Run.getf d_PM_undo_1 fl_PM_43 (by first | rfl | assumption) (by rfl) ?_
  refine Run.getf d_PM_undo_4 fl_PM_91 (by first | rfl | assumption) (by rfl) ?_
  first | refine Run.if_ne_b d_PM_undo_7 (fun c7 => ?_) (fun c7 => ?_) | refine Run.if_ne_n d_PM_undo_7 (by omega) (fun c7 => ?_) (fun c7 => ?_) | refine Run.if_ne d_PM_undo_7 (fun c7 => ?_) (fun c7 => ?_)
  · refine Run.aload_n d_PM_undo_13 rfl ?_
    refine Run.aload_n d_PM_undo_14 rfl ?_
    refine Run.getf d_PM_undo_15 fl_PM_43 (by first | rfl | assumption) (by rfl) ?_
    refine Run.V0r d_PM_undo_18 lk_PM_177 cm_Ac_removeLast iv_Ac_removeLast rfl (by first | rfl | assumption) (Nat.le_of_ble_eq_true rfl) (Nat.le_of_ble_eq_true rfl) (c_Ac_removeLast (k := 22) (n := n) (f := row) rfl rfl hn) ?_
    refine run_hp (show _ = hX tx ca cb kt kd sd nw tr (row, nI n) tu gi mo dn ch s0 s1 ++ t from rfl) ?_
    refine Run.V1v d_PM_undo_21 lk_PM_180 cm_PM_takeBack iv_PM_takeBack rfl (by first | rfl | assumption) (Nat.le_of_ble_eq_true rfl) (Nat.le_of_ble_eq_true rfl) (hb) ?_
    refine Run.aload_n d_PM_undo_24 rfl ?_
    refine Run.getf d_PM_undo_25 fl_PM_43 (by first | rfl | assumption) (by rfl) ?_
    refine Run.getf d_PM_undo_28 fl_PM_91 (by first | rfl | assumption) (by rfl) ?_
    refine Run.iret d_PM_undo_31 rfl rfl ?_
    exact ⟨rfl, rfl⟩
  · omega
theorem q_PM_turn0 {x y : Int32} (hx : (inB x 8 && inB y 6) = false) : Call X (d + 1) 0 0 M_PM_turn [.ref 1, .int x, .int y] (hX tx ca cb kt kd sd nw tr ac tu gi mo dn ch s0 s1 ++ t) (Ret (.int (-2)) (hX tx ca cb kt kd sd nw tr ac tu gi mo dn ch s0 s1 ++ t)) := by
  show Run X (d + 1) 0 0 M_PM_turn 0 [some (.ref 1), some (.int x), some (.int y)] [] _ _
  refine Run.iload_n d_PM_turn_0 rfl ?_
  refine Run.bipush (v := nI 8) d_PM_turn_1 bp_8 ?_
  refine Run.S2r d_PM_turn_3 lk_PM_158 cm_PM_isBelow st_PM_isBelow (Nat.le_of_ble_eq_true rfl) (Nat.le_of_ble_eq_true rfl) (c_PM_isBelow) ?_
  first | refine Run.if_eq_b d_PM_turn_6 (fun c6 => ?_) (fun c6 => ?_) | refine Run.if_eq_n d_PM_turn_6 (by omega) (fun c6 => ?_) (fun c6 => ?_) | refine Run.if_eq d_PM_turn_6 (fun c6 => ?_) (fun c6 => ?_)
  · refine Run.bipush (v := -2) d_PM_turn_18 bp_m2 ?_
    refine Run.iret d_PM_turn_20 rfl rfl ?_
    exact ⟨rfl, rfl⟩
  · refine Run.iload_n d_PM_turn_9 rfl ?_
    refine Run.bipush (v := nI 6) d_PM_turn_10 bp_6 ?_
    refine Run.S2r d_PM_turn_12 lk_PM_158 cm_PM_isBelow st_PM_isBelow (Nat.le_of_ble_eq_true rfl) (Nat.le_of_ble_eq_true rfl) (c_PM_isBelow) ?_
    first | refine Run.if_ne_b d_PM_turn_15 (fun c15 => ?_) (fun c15 => ?_) | refine Run.if_ne_n d_PM_turn_15 (by omega) (fun c15 => ?_) (fun c15 => ?_) | refine Run.if_ne d_PM_turn_15 (fun c15 => ?_) (fun c15 => ?_)
    · rw [show inB x 8 = true from c6, show inB y 6 = true from c15] at hx; cases hx
    · refine Run.bipush (v := -2) d_PM_turn_18 bp_m2 ?_
      refine Run.iret d_PM_turn_20 rfl rfl ?_
      exact ⟨rfl, rfl⟩
theorem q_PM_turn1 {i j n : Nat} {fa fb fc : FI} {v3 v4 : Int32} (hi : i < 8) (hj : j < 6) (hn : n < 6) : Call X (d + 1) 0 0 M_PM_turn [.ref 1, .int (nI i), .int (nI j)] (hX tx ca cb kt kd sd nw tr ac (fa, fb, fc, nI n, v3, v4) gi mo dn ch s0 s1 ++ t) (Ret (.int (nI (n + 1))) (hX tx ca cb kt kd sd nw tr ac (upd fa n (nI i), upd fb n (nI j), fc, nI (n + 1), v3, v4) gi mo dn ch s0 s1 ++ t)) := by
  show Run X (d + 1) 0 0 M_PM_turn 0 [some (.ref 1), some (.int (nI i)), some (.int (nI j))] [] _ _
  refine Run.iload_n d_PM_turn_0 rfl ?_
  refine Run.bipush (v := nI 8) d_PM_turn_1 bp_8 ?_
  refine Run.S2r d_PM_turn_3 lk_PM_158 cm_PM_isBelow st_PM_isBelow (Nat.le_of_ble_eq_true rfl) (Nat.le_of_ble_eq_true rfl) (c_PM_isBelow) ?_
  first | refine Run.if_eq_b d_PM_turn_6 (fun c6 => ?_) (fun c6 => ?_) | refine Run.if_eq_n d_PM_turn_6 (by omega) (fun c6 => ?_) (fun c6 => ?_) | refine Run.if_eq d_PM_turn_6 (fun c6 => ?_) (fun c6 => ?_)
  · exact (inB_f hi (by omega) c6).elim
  · refine Run.iload_n d_PM_turn_9 rfl ?_
    refine Run.bipush (v := nI 6) d_PM_turn_10 bp_6 ?_
    refine Run.S2r d_PM_turn_12 lk_PM_158 cm_PM_isBelow st_PM_isBelow (Nat.le_of_ble_eq_true rfl) (Nat.le_of_ble_eq_true rfl) (c_PM_isBelow) ?_
    first | refine Run.if_ne_b d_PM_turn_15 (fun c15 => ?_) (fun c15 => ?_) | refine Run.if_ne_n d_PM_turn_15 (by omega) (fun c15 => ?_) (fun c15 => ?_) | refine Run.if_ne d_PM_turn_15 (fun c15 => ?_) (fun c15 => ?_)
    · refine Run.aload_n d_PM_turn_21 rfl ?_
      refine Run.getf d_PM_turn_22 fl_PM_50 (by first | rfl | assumption) (by rfl) ?_
      refine Run.iload_n d_PM_turn_25 rfl ?_
      refine Run.iload_n d_PM_turn_26 rfl ?_
      refine Run.V2r d_PM_turn_27 lk_PM_234 cm_Tu_add iv_Tu_add rfl (by first | rfl | assumption) (Nat.le_of_ble_eq_true rfl) (Nat.le_of_ble_eq_true rfl) (c_Tu_add1 (k := 24) (n := n) (fa := fa) (fb := fb) rfl rfl rfl hn) ?_
      first | refine Run.if_eq_b d_PM_turn_30 (fun c30 => ?_) (fun c30 => ?_) | refine Run.if_eq_n d_PM_turn_30 (by omega) (fun c30 => ?_) (fun c30 => ?_) | refine Run.if_eq d_PM_turn_30 (fun c30 => ?_) (fun c30 => ?_)
      · cases c30
      · refine Run.aload_n d_PM_turn_33 rfl ?_
        refine Run.getf d_PM_turn_34 fl_PM_50 (by first | rfl | assumption) (by rfl) ?_
        refine Run.getf d_PM_turn_37 fl_PM_118 (by first | rfl | assumption) (by rfl) ?_
        refine Run.goto d_PM_turn_40 ?_
        refine Run.iret d_PM_turn_45 rfl rfl ?_
        exact ⟨rfl, rfl⟩
    · exact (inB_f hj (by omega) c15).elim
theorem q_PM_turn2 {i j n : Nat} {fa fb fc : FI} {v3 v4 : Int32} (hi : i < 8) (hj : j < 6) (hn : n = 6) : Call X (d + 1) 0 0 M_PM_turn [.ref 1, .int (nI i), .int (nI j)] (hX tx ca cb kt kd sd nw tr ac (fa, fb, fc, nI n, v3, v4) gi mo dn ch s0 s1 ++ t) (Ret (.int (-4)) (hX tx ca cb kt kd sd nw tr ac (fa, fb, fc, nI n, v3, v4) gi mo dn ch s0 s1 ++ t)) := by
  show Run X (d + 1) 0 0 M_PM_turn 0 [some (.ref 1), some (.int (nI i)), some (.int (nI j))] [] _ _
  refine Run.iload_n d_PM_turn_0 rfl ?_
  refine Run.bipush (v := nI 8) d_PM_turn_1 bp_8 ?_
  refine Run.S2r d_PM_turn_3 lk_PM_158 cm_PM_isBelow st_PM_isBelow (Nat.le_of_ble_eq_true rfl) (Nat.le_of_ble_eq_true rfl) (c_PM_isBelow) ?_
  first | refine Run.if_eq_b d_PM_turn_6 (fun c6 => ?_) (fun c6 => ?_) | refine Run.if_eq_n d_PM_turn_6 (by omega) (fun c6 => ?_) (fun c6 => ?_) | refine Run.if_eq d_PM_turn_6 (fun c6 => ?_) (fun c6 => ?_)
  · exact (inB_f hi (by omega) c6).elim
  · refine Run.iload_n d_PM_turn_9 rfl ?_
    refine Run.bipush (v := nI 6) d_PM_turn_10 bp_6 ?_
    refine Run.S2r d_PM_turn_12 lk_PM_158 cm_PM_isBelow st_PM_isBelow (Nat.le_of_ble_eq_true rfl) (Nat.le_of_ble_eq_true rfl) (c_PM_isBelow) ?_
    first | refine Run.if_ne_b d_PM_turn_15 (fun c15 => ?_) (fun c15 => ?_) | refine Run.if_ne_n d_PM_turn_15 (by omega) (fun c15 => ?_) (fun c15 => ?_) | refine Run.if_ne d_PM_turn_15 (fun c15 => ?_) (fun c15 => ?_)
    · refine Run.aload_n d_PM_turn_21 rfl ?_
      refine Run.getf d_PM_turn_22 fl_PM_50 (by first | rfl | assumption) (by rfl) ?_
      refine Run.iload_n d_PM_turn_25 rfl ?_
      refine Run.iload_n d_PM_turn_26 rfl ?_
      refine Run.V2r d_PM_turn_27 lk_PM_234 cm_Tu_add iv_Tu_add rfl (by first | rfl | assumption) (Nat.le_of_ble_eq_true rfl) (Nat.le_of_ble_eq_true rfl) (c_Tu_add0 (k := 24) (n := n) rfl hn) ?_
      first | refine Run.if_eq_b d_PM_turn_30 (fun c30 => ?_) (fun c30 => ?_) | refine Run.if_eq_n d_PM_turn_30 (by omega) (fun c30 => ?_) (fun c30 => ?_) | refine Run.if_eq d_PM_turn_30 (fun c30 => ?_) (fun c30 => ?_)
      · refine Run.bipush (v := -4) d_PM_turn_43 bp_m4 ?_
        refine Run.iret d_PM_turn_45 rfl rfl ?_
        exact ⟨rfl, rfl⟩
      · cases c30
    · exact (inB_f hj (by omega) c15).elim
theorem q_PM_unturn {fa fb fc : FI} {v2 v3 v4 : Int32} : Call X d 0 0 M_PM_unturn [.ref 1] (hX tx ca cb kt kd sd nw tr ac (fa, fb, fc, v2, v3, v4) gi mo dn ch s0 s1 ++ t) (Ret (.int v2) (hX tx ca cb kt kd sd nw tr ac (fa, fb, fc, nI 0, v3, v4) gi mo dn ch s0 s1 ++ t)) := by
  show Run X d 0 0 M_PM_unturn 0 [some (.ref 1), none] [] _ _
  refine Run.aload_n d_PM_unturn_0 rfl ?_
  refine Run.getf d_PM_unturn_1 fl_PM_50 (by first | rfl | assumption) (by rfl) ?_
  refine Run.getf d_PM_unturn_4 fl_PM_118 (by first | rfl | assumption) (by rfl) ?_
  refine Run.istore_n d_PM_unturn_7 rfl rfl ?_
  show Run _ _ _ _ _ _ [_, _] _ _ _
  refine Run.aload_n d_PM_unturn_8 rfl ?_
  refine Run.getf d_PM_unturn_9 fl_PM_50 (by first | rfl | assumption) (by rfl) ?_
  refine Run.iconst (v := nI 0) d_PM_unturn_12 ic_0 ?_
  refine Run.putf d_PM_unturn_13 fl_PM_118 (fun _ => rfl) (fun _ => rfl) (by first | rfl | assumption) (by exact Nat.le_of_ble_eq_true rfl) ?_
  refine Run.iload_n d_PM_unturn_16 rfl ?_
  refine Run.iret d_PM_unturn_17 rfl rfl ?_
  exact ⟨rfl, rfl⟩
theorem q_PM_seed {v : Int64} : Call X d 0 0 M_PM_seed [.ref 1, .long v] (hX tx ca cb kt kd sd nw tr ac tu gi mo dn ch s0 s1 ++ t) (Ret (.long sd) (hX tx ca cb kt kd v nw tr ac tu gi mo dn ch s0 s1 ++ t)) := by
  show Run X d 0 0 M_PM_seed 0 [some (.ref 1), some (.long v), none, none, none] [] _ _
  refine Run.aload_n d_PM_seed_0 rfl ?_
  refine Run.getf d_PM_seed_1 fl_PM_255 (by first | rfl | assumption) (by rfl) ?_
  refine Run.lstore_n d_PM_seed_4 rfl rfl ?_
  show Run _ _ _ _ _ _ [_, _, _, _, _] _ _ _
  refine Run.aload_n d_PM_seed_5 rfl ?_
  refine Run.lload_n d_PM_seed_6 rfl ?_
  refine Run.putf d_PM_seed_7 fl_PM_255 (fun _ => rfl) (fun _ => rfl) (by first | rfl | assumption) (by exact Nat.le_of_ble_eq_true rfl) ?_
  refine Run.lload_n d_PM_seed_10 rfl ?_
  refine Run.lret d_PM_seed_11 rfl ?_
  exact ⟨rfl, rfl⟩
/-- a state with another's numbers -/
def stCp (s o : StS) : StS := (va_cpy o.1 s.1 0 0 6, va_cpy o.2.1 s.2.1 0 0 6, o.2.2.1, o.2.2.2.1, s.2.2.2.2)
def stKe (s : StS) (k : Int32) : StS := (s.1, s.2.1, s.2.2.1, s.2.2.2.1, k)
theorem q_PM_keepX {x : Int32} (hx : inB x 2 = false) : Call X (d + 1) 0 0 M_PM_keep [.ref 1, .int x] (hX tx ca cb kt kd sd nw tr ac tu gi mo dn ch s0 s1 ++ t) (Ret (.int (-1)) (hX tx ca cb kt kd sd nw tr ac tu gi mo dn ch s0 s1 ++ t)) := by
  show Run X (d + 1) 0 0 M_PM_keep 0 [some (.ref 1), some (.int x)] [] _ _
  refine Run.iload_n d_PM_keep_0 rfl ?_
  refine Run.iconst (v := nI 2) d_PM_keep_1 ic_2 ?_
  refine Run.S2r d_PM_keep_2 lk_PM_158 cm_PM_isBelow st_PM_isBelow (Nat.le_of_ble_eq_true rfl) (Nat.le_of_ble_eq_true rfl) (c_PM_isBelow) ?_
  first | refine Run.if_ne_b d_PM_keep_5 (fun c5 => ?_) (fun c5 => ?_) | refine Run.if_ne_n d_PM_keep_5 (by omega) (fun c5 => ?_) (fun c5 => ?_) | refine Run.if_ne d_PM_keep_5 (fun c5 => ?_) (fun c5 => ?_)
  · rw [show inB x 2 = true from c5] at hx; cases hx
  · refine Run.iconst (v := -1) d_PM_keep_8 ic_m1 ?_
    refine Run.iret d_PM_keep_9 rfl rfl ?_
    exact ⟨rfl, rfl⟩
theorem q_PM_keep0 : Call X (d + 2) 0 0 M_PM_keep [.ref 1, .int (nI 0)] (hX tx ca cb kt kd sd nw tr ac tu gi mo dn ch s0 s1 ++ t) (Ret (.int nw.2.2.2.1) (hX tx ca cb kt kd sd nw tr ac tu gi mo dn ch (stKe (stCp s0 nw) (nI 1)) s1 ++ t)) := by
  show Run X (d + 2) 0 0 M_PM_keep 0 [some (.ref 1), some (.int (nI 0))] [] _ _
  refine Run.iload_n d_PM_keep_0 rfl ?_
  refine Run.iconst (v := nI 2) d_PM_keep_1 ic_2 ?_
  refine Run.S2r d_PM_keep_2 lk_PM_158 cm_PM_isBelow st_PM_isBelow (Nat.le_of_ble_eq_true rfl) (Nat.le_of_ble_eq_true rfl) (c_PM_isBelow) ?_
  first | refine Run.if_ne_b d_PM_keep_5 (fun c5 => ?_) (fun c5 => ?_) | refine Run.if_ne_n d_PM_keep_5 (by omega) (fun c5 => ?_) (fun c5 => ?_) | refine Run.if_ne d_PM_keep_5 (fun c5 => ?_) (fun c5 => ?_)
  · refine Run.aload_n d_PM_keep_10 rfl ?_
    refine Run.getf d_PM_keep_11 fl_PM_36 (by first | rfl | assumption) (by rfl) ?_
    refine Run.iload_n d_PM_keep_14 rfl ?_
    refine Run.aald_n d_PM_keep_15 (by first | rfl | assumption) (by omega) (by omega) (by rfl) ?_
    refine Run.aload_n d_PM_keep_16 rfl ?_
    refine Run.getf d_PM_keep_17 fl_PM_29 (by first | rfl | assumption) (by rfl) ?_
    refine Run.V1v d_PM_keep_20 lk_PM_220 cm_St_copyFrom iv_St_copyFrom rfl (by first | rfl | assumption) (Nat.le_of_ble_eq_true rfl) (Nat.le_of_ble_eq_true rfl) (c_St_copyFrom (k := 37) (k2 := 15) (v1 := .null) (v2 := .null) rfl rfl rfl rfl rfl rfl (by omega)) ?_
    refine Run.aload_n d_PM_keep_23 rfl ?_
    refine Run.getf d_PM_keep_24 fl_PM_36 (by first | rfl | assumption) (by rfl) ?_
    refine Run.iload_n d_PM_keep_27 rfl ?_
    refine Run.aald_n d_PM_keep_28 (by first | rfl | assumption) (by omega) (by omega) (by rfl) ?_
    refine Run.iconst (v := nI 1) d_PM_keep_29 ic_1 ?_
    refine Run.putf d_PM_keep_30 fl_PM_94 (fun _ => rfl) (fun _ => rfl) (by first | rfl | assumption) (by exact Nat.le_of_ble_eq_true rfl) ?_
    refine Run.aload_n d_PM_keep_33 rfl ?_
    refine Run.getf d_PM_keep_34 fl_PM_29 (by first | rfl | assumption) (by rfl) ?_
    refine Run.getf d_PM_keep_37 fl_PM_107 (by first | rfl | assumption) (by rfl) ?_
    refine Run.iret d_PM_keep_40 rfl rfl ?_
    exact ⟨rfl, rfl⟩
  · exact (inB_f (by omega) (by omega) c5).elim
theorem q_PM_keep1 : Call X (d + 2) 0 0 M_PM_keep [.ref 1, .int (nI 1)] (hX tx ca cb kt kd sd nw tr ac tu gi mo dn ch s0 s1 ++ t) (Ret (.int nw.2.2.2.1) (hX tx ca cb kt kd sd nw tr ac tu gi mo dn ch s0 (stKe (stCp s1 nw) (nI 1)) ++ t)) := by
  show Run X (d + 2) 0 0 M_PM_keep 0 [some (.ref 1), some (.int (nI 1))] [] _ _
  refine Run.iload_n d_PM_keep_0 rfl ?_
  refine Run.iconst (v := nI 2) d_PM_keep_1 ic_2 ?_
  refine Run.S2r d_PM_keep_2 lk_PM_158 cm_PM_isBelow st_PM_isBelow (Nat.le_of_ble_eq_true rfl) (Nat.le_of_ble_eq_true rfl) (c_PM_isBelow) ?_
  first | refine Run.if_ne_b d_PM_keep_5 (fun c5 => ?_) (fun c5 => ?_) | refine Run.if_ne_n d_PM_keep_5 (by omega) (fun c5 => ?_) (fun c5 => ?_) | refine Run.if_ne d_PM_keep_5 (fun c5 => ?_) (fun c5 => ?_)
  · refine Run.aload_n d_PM_keep_10 rfl ?_
    refine Run.getf d_PM_keep_11 fl_PM_36 (by first | rfl | assumption) (by rfl) ?_
    refine Run.iload_n d_PM_keep_14 rfl ?_
    refine Run.aald_n d_PM_keep_15 (by first | rfl | assumption) (by omega) (by omega) (by rfl) ?_
    refine Run.aload_n d_PM_keep_16 rfl ?_
    refine Run.getf d_PM_keep_17 fl_PM_29 (by first | rfl | assumption) (by rfl) ?_
    refine Run.V1v d_PM_keep_20 lk_PM_220 cm_St_copyFrom iv_St_copyFrom rfl (by first | rfl | assumption) (Nat.le_of_ble_eq_true rfl) (Nat.le_of_ble_eq_true rfl) (c_St_copyFrom (k := 40) (k2 := 15) (v1 := .null) (v2 := .null) rfl rfl rfl rfl rfl rfl (by omega)) ?_
    refine Run.aload_n d_PM_keep_23 rfl ?_
    refine Run.getf d_PM_keep_24 fl_PM_36 (by first | rfl | assumption) (by rfl) ?_
    refine Run.iload_n d_PM_keep_27 rfl ?_
    refine Run.aald_n d_PM_keep_28 (by first | rfl | assumption) (by omega) (by omega) (by rfl) ?_
    refine Run.iconst (v := nI 1) d_PM_keep_29 ic_1 ?_
    refine Run.putf d_PM_keep_30 fl_PM_94 (fun _ => rfl) (fun _ => rfl) (by first | rfl | assumption) (by exact Nat.le_of_ble_eq_true rfl) ?_
    refine Run.aload_n d_PM_keep_33 rfl ?_
    refine Run.getf d_PM_keep_34 fl_PM_29 (by first | rfl | assumption) (by rfl) ?_
    refine Run.getf d_PM_keep_37 fl_PM_107 (by first | rfl | assumption) (by rfl) ?_
    refine Run.iret d_PM_keep_40 rfl rfl ?_
    exact ⟨rfl, rfl⟩
  · exact (inB_f (by omega) (by omega) c5).elim
theorem q_PM_againX {x : Int32} (hx : inB x 2 = false) : Call X (d + 1) 0 0 M_PM_again [.ref 1, .int x] (hX tx ca cb kt kd sd nw tr ac tu gi mo dn ch s0 s1 ++ t) (Ret (.int (-1)) (hX tx ca cb kt kd sd nw tr ac tu gi mo dn ch s0 s1 ++ t)) := by
  show Run X (d + 1) 0 0 M_PM_again 0 [some (.ref 1), some (.int x)] [] _ _
  refine Run.iload_n d_PM_again_0 rfl ?_
  refine Run.iconst (v := nI 2) d_PM_again_1 ic_2 ?_
  refine Run.S2r d_PM_again_2 lk_PM_158 cm_PM_isBelow st_PM_isBelow (Nat.le_of_ble_eq_true rfl) (Nat.le_of_ble_eq_true rfl) (c_PM_isBelow) ?_
  first | refine Run.if_ne_b d_PM_again_5 (fun c5 => ?_) (fun c5 => ?_) | refine Run.if_ne_n d_PM_again_5 (by omega) (fun c5 => ?_) (fun c5 => ?_) | refine Run.if_ne d_PM_again_5 (fun c5 => ?_) (fun c5 => ?_)
  · rw [show inB x 2 = true from c5] at hx; cases hx
  · refine Run.iconst (v := -1) d_PM_again_8 ic_m1 ?_
    refine Run.iret d_PM_again_9 rfl rfl ?_
    exact ⟨rfl, rfl⟩
theorem q_PM_again0L {ft fw : FI} {li ho : Int32} : Call X (d + 1) 0 0 M_PM_again [.ref 1, .int (nI 0)] (hX tx ca cb kt kd sd nw tr ac tu gi mo dn ch (ft, fw, li, ho, bI false) s1 ++ t) (Ret (.int (-3)) (hX tx ca cb kt kd sd nw tr ac tu gi mo dn ch (ft, fw, li, ho, bI false) s1 ++ t)) := by
  show Run X (d + 1) 0 0 M_PM_again 0 [some (.ref 1), some (.int (nI 0))] [] _ _
  refine Run.iload_n d_PM_again_0 rfl ?_
  refine Run.iconst (v := nI 2) d_PM_again_1 ic_2 ?_
  refine Run.S2r d_PM_again_2 lk_PM_158 cm_PM_isBelow st_PM_isBelow (Nat.le_of_ble_eq_true rfl) (Nat.le_of_ble_eq_true rfl) (c_PM_isBelow) ?_
  first | refine Run.if_ne_b d_PM_again_5 (fun c5 => ?_) (fun c5 => ?_) | refine Run.if_ne_n d_PM_again_5 (by omega) (fun c5 => ?_) (fun c5 => ?_) | refine Run.if_ne d_PM_again_5 (fun c5 => ?_) (fun c5 => ?_)
  · refine Run.aload_n d_PM_again_10 rfl ?_
    refine Run.getf d_PM_again_11 fl_PM_36 (by first | rfl | assumption) (by rfl) ?_
    refine Run.iload_n d_PM_again_14 rfl ?_
    refine Run.aald_n d_PM_again_15 (by first | rfl | assumption) (by omega) (by omega) (by rfl) ?_
    refine Run.getf d_PM_again_16 fl_PM_94 (by first | rfl | assumption) (by rfl) ?_
    first | refine Run.if_ne_b d_PM_again_19 (fun c19 => ?_) (fun c19 => ?_) | refine Run.if_ne_n d_PM_again_19 (by omega) (fun c19 => ?_) (fun c19 => ?_) | refine Run.if_ne d_PM_again_19 (fun c19 => ?_) (fun c19 => ?_)
    · exact absurd rfl c19
    · refine Run.bipush (v := -3) d_PM_again_22 bp_m3 ?_
      refine Run.iret d_PM_again_24 rfl rfl ?_
      exact ⟨rfl, rfl⟩
  · exact (inB_f (by omega) (by omega) c5).elim
theorem q_PM_again1L {ft fw : FI} {li ho : Int32} : Call X (d + 1) 0 0 M_PM_again [.ref 1, .int (nI 1)] (hX tx ca cb kt kd sd nw tr ac tu gi mo dn ch s0 (ft, fw, li, ho, bI false) ++ t) (Ret (.int (-3)) (hX tx ca cb kt kd sd nw tr ac tu gi mo dn ch s0 (ft, fw, li, ho, bI false) ++ t)) := by
  show Run X (d + 1) 0 0 M_PM_again 0 [some (.ref 1), some (.int (nI 1))] [] _ _
  refine Run.iload_n d_PM_again_0 rfl ?_
  refine Run.iconst (v := nI 2) d_PM_again_1 ic_2 ?_
  refine Run.S2r d_PM_again_2 lk_PM_158 cm_PM_isBelow st_PM_isBelow (Nat.le_of_ble_eq_true rfl) (Nat.le_of_ble_eq_true rfl) (c_PM_isBelow) ?_
  first | refine Run.if_ne_b d_PM_again_5 (fun c5 => ?_) (fun c5 => ?_) | refine Run.if_ne_n d_PM_again_5 (by omega) (fun c5 => ?_) (fun c5 => ?_) | refine Run.if_ne d_PM_again_5 (fun c5 => ?_) (fun c5 => ?_)
  · refine Run.aload_n d_PM_again_10 rfl ?_
    refine Run.getf d_PM_again_11 fl_PM_36 (by first | rfl | assumption) (by rfl) ?_
    refine Run.iload_n d_PM_again_14 rfl ?_
    refine Run.aald_n d_PM_again_15 (by first | rfl | assumption) (by omega) (by omega) (by rfl) ?_
    refine Run.getf d_PM_again_16 fl_PM_94 (by first | rfl | assumption) (by rfl) ?_
    first | refine Run.if_ne_b d_PM_again_19 (fun c19 => ?_) (fun c19 => ?_) | refine Run.if_ne_n d_PM_again_19 (by omega) (fun c19 => ?_) (fun c19 => ?_) | refine Run.if_ne d_PM_again_19 (fun c19 => ?_) (fun c19 => ?_)
    · exact absurd rfl c19
    · refine Run.bipush (v := -3) d_PM_again_22 bp_m3 ?_
      refine Run.iret d_PM_again_24 rfl rfl ?_
      exact ⟨rfl, rfl⟩
  · exact (inB_f (by omega) (by omega) c5).elim
theorem q_PM_again0 {row ft fw : FI} {n li ho : Int32} : Call X (d + 2) 0 0 M_PM_again [.ref 1, .int (nI 0)] (hX tx ca cb kt kd sd nw tr (row, n) tu gi mo dn ch (ft, fw, li, ho, bI true) s1 ++ t) (Ret (.int ho) (hX tx ca cb kt kd sd (stCp nw (ft, fw, li, ho, bI true)) tr (row, nI 0) tu gi mo dn ch (ft, fw, li, ho, bI true) s1 ++ t)) := by
  show Run X (d + 2) 0 0 M_PM_again 0 [some (.ref 1), some (.int (nI 0))] [] _ _
  refine Run.iload_n d_PM_again_0 rfl ?_
  refine Run.iconst (v := nI 2) d_PM_again_1 ic_2 ?_
  refine Run.S2r d_PM_again_2 lk_PM_158 cm_PM_isBelow st_PM_isBelow (Nat.le_of_ble_eq_true rfl) (Nat.le_of_ble_eq_true rfl) (c_PM_isBelow) ?_
  first | refine Run.if_ne_b d_PM_again_5 (fun c5 => ?_) (fun c5 => ?_) | refine Run.if_ne_n d_PM_again_5 (by omega) (fun c5 => ?_) (fun c5 => ?_) | refine Run.if_ne d_PM_again_5 (fun c5 => ?_) (fun c5 => ?_)
  · refine Run.aload_n d_PM_again_10 rfl ?_
    refine Run.getf d_PM_again_11 fl_PM_36 (by first | rfl | assumption) (by rfl) ?_
    refine Run.iload_n d_PM_again_14 rfl ?_
    refine Run.aald_n d_PM_again_15 (by first | rfl | assumption) (by omega) (by omega) (by rfl) ?_
    refine Run.getf d_PM_again_16 fl_PM_94 (by first | rfl | assumption) (by rfl) ?_
    first | refine Run.if_ne_b d_PM_again_19 (fun c19 => ?_) (fun c19 => ?_) | refine Run.if_ne_n d_PM_again_19 (by omega) (fun c19 => ?_) (fun c19 => ?_) | refine Run.if_ne d_PM_again_19 (fun c19 => ?_) (fun c19 => ?_)
    · refine Run.aload_n d_PM_again_25 rfl ?_
      refine Run.getf d_PM_again_26 fl_PM_29 (by first | rfl | assumption) (by rfl) ?_
      refine Run.aload_n d_PM_again_29 rfl ?_
      refine Run.getf d_PM_again_30 fl_PM_36 (by first | rfl | assumption) (by rfl) ?_
      refine Run.iload_n d_PM_again_33 rfl ?_
      refine Run.aald_n d_PM_again_34 (by first | rfl | assumption) (by omega) (by omega) (by rfl) ?_
      refine Run.V1v d_PM_again_35 lk_PM_220 cm_St_copyFrom iv_St_copyFrom rfl (by first | rfl | assumption) (Nat.le_of_ble_eq_true rfl) (Nat.le_of_ble_eq_true rfl) (c_St_copyFrom (k := 15) (k2 := 37) (v1 := .null) (v2 := .null) rfl rfl rfl rfl rfl rfl (by omega)) ?_
      refine Run.aload_n d_PM_again_38 rfl ?_
      refine Run.getf d_PM_again_39 fl_PM_43 (by first | rfl | assumption) (by rfl) ?_
      refine Run.iconst (v := nI 0) d_PM_again_42 ic_0 ?_
      refine Run.putf d_PM_again_43 fl_PM_91 (fun _ => rfl) (fun _ => rfl) (by first | rfl | assumption) (by exact Nat.le_of_ble_eq_true rfl) ?_
      refine Run.aload_n d_PM_again_46 rfl ?_
      refine Run.getf d_PM_again_47 fl_PM_29 (by first | rfl | assumption) (by rfl) ?_
      refine Run.getf d_PM_again_50 fl_PM_107 (by first | rfl | assumption) (by rfl) ?_
      refine Run.iret d_PM_again_53 rfl rfl ?_
      exact ⟨rfl, rfl⟩
    · cases c19
  · exact (inB_f (by omega) (by omega) c5).elim
theorem q_PM_again1 {row ft fw : FI} {n li ho : Int32} : Call X (d + 2) 0 0 M_PM_again [.ref 1, .int (nI 1)] (hX tx ca cb kt kd sd nw tr (row, n) tu gi mo dn ch s0 (ft, fw, li, ho, bI true) ++ t) (Ret (.int ho) (hX tx ca cb kt kd sd (stCp nw (ft, fw, li, ho, bI true)) tr (row, nI 0) tu gi mo dn ch s0 (ft, fw, li, ho, bI true) ++ t)) := by
  show Run X (d + 2) 0 0 M_PM_again 0 [some (.ref 1), some (.int (nI 1))] [] _ _
  refine Run.iload_n d_PM_again_0 rfl ?_
  refine Run.iconst (v := nI 2) d_PM_again_1 ic_2 ?_
  refine Run.S2r d_PM_again_2 lk_PM_158 cm_PM_isBelow st_PM_isBelow (Nat.le_of_ble_eq_true rfl) (Nat.le_of_ble_eq_true rfl) (c_PM_isBelow) ?_
  first | refine Run.if_ne_b d_PM_again_5 (fun c5 => ?_) (fun c5 => ?_) | refine Run.if_ne_n d_PM_again_5 (by omega) (fun c5 => ?_) (fun c5 => ?_) | refine Run.if_ne d_PM_again_5 (fun c5 => ?_) (fun c5 => ?_)
  · refine Run.aload_n d_PM_again_10 rfl ?_
    refine Run.getf d_PM_again_11 fl_PM_36 (by first | rfl | assumption) (by rfl) ?_
    refine Run.iload_n d_PM_again_14 rfl ?_
    refine Run.aald_n d_PM_again_15 (by first | rfl | assumption) (by omega) (by omega) (by rfl) ?_
    refine Run.getf d_PM_again_16 fl_PM_94 (by first | rfl | assumption) (by rfl) ?_
    first | refine Run.if_ne_b d_PM_again_19 (fun c19 => ?_) (fun c19 => ?_) | refine Run.if_ne_n d_PM_again_19 (by omega) (fun c19 => ?_) (fun c19 => ?_) | refine Run.if_ne d_PM_again_19 (fun c19 => ?_) (fun c19 => ?_)
    · refine Run.aload_n d_PM_again_25 rfl ?_
      refine Run.getf d_PM_again_26 fl_PM_29 (by first | rfl | assumption) (by rfl) ?_
      refine Run.aload_n d_PM_again_29 rfl ?_
      refine Run.getf d_PM_again_30 fl_PM_36 (by first | rfl | assumption) (by rfl) ?_
      refine Run.iload_n d_PM_again_33 rfl ?_
      refine Run.aald_n d_PM_again_34 (by first | rfl | assumption) (by omega) (by omega) (by rfl) ?_
      refine Run.V1v d_PM_again_35 lk_PM_220 cm_St_copyFrom iv_St_copyFrom rfl (by first | rfl | assumption) (Nat.le_of_ble_eq_true rfl) (Nat.le_of_ble_eq_true rfl) (c_St_copyFrom (k := 15) (k2 := 40) (v1 := .null) (v2 := .null) rfl rfl rfl rfl rfl rfl (by omega)) ?_
      refine Run.aload_n d_PM_again_38 rfl ?_
      refine Run.getf d_PM_again_39 fl_PM_43 (by first | rfl | assumption) (by rfl) ?_
      refine Run.iconst (v := nI 0) d_PM_again_42 ic_0 ?_
      refine Run.putf d_PM_again_43 fl_PM_91 (fun _ => rfl) (fun _ => rfl) (by first | rfl | assumption) (by exact Nat.le_of_ble_eq_true rfl) ?_
      refine Run.aload_n d_PM_again_46 rfl ?_
      refine Run.getf d_PM_again_47 fl_PM_29 (by first | rfl | assumption) (by rfl) ?_
      refine Run.getf d_PM_again_50 fl_PM_107 (by first | rfl | assumption) (by rfl) ?_
      refine Run.iret d_PM_again_53 rfl rfl ?_
      exact ⟨rfl, rfl⟩
    · cases c19
  · exact (inB_f (by omega) (by omega) c5).elim
end WORLD
