/-! ===== each call, both sides: the unknown piece, slots, the seed ===== -/
section PAIRS3
variable {X : Nat × (Nat → Int32)} {N : Nat}
theorem pr_turn {x : Int32} {y : Int32} (hN : N ≤ 600) : Pr X N M_PM_turn M_Rf_turn [.int x, .int y] := by
  refine Pr.mk ?_
  intro tx ca cb kt kd sd nw tr ac tu gi mo dn ch s0 s1 z1 z2 z3 z4 z5 z6 z7 z8 z9 y1 y2 y3 y4 rt ho pi rh rp pg rr bk kp ik ta tp ga gr va rw hT hW hU
  obtain ⟨c, p, hc, hp, ht, hr, hs, hg, hh, h0, h1⟩ := id hW
  obtain ⟨nt, tA, tV, hnt, e5, e6, hTu⟩ := id hU
  obtain ⟨fa, fb, al, v2, v3, v4⟩ := tu
  have e5 : v2 = nI nt := e5
  subst e5
  subst e6
  have hta1 : ∀ j, j < nt → fa j = nI (tA j) ∧ tA j < 8 := fun j hj => ⟨(hTu j hj).1.1, (hTu j hj).1.2.2⟩
  have htv1 : ∀ j, j < nt → fb j = nI (tV j) ∧ tV j < 6 := fun j hj => ⟨(hTu j hj).2.1, (hTu j hj).2.2.2⟩
  have hta2 : ∀ j, j < nt → ta j = nI (tA j) ∧ tA j < 8 := fun j hj => ⟨(hTu j hj).1.2.1, (hTu j hj).1.2.2⟩
  have htv2 : ∀ j, j < nt → tp j = nI (tV j) ∧ tV j < 6 := fun j hj => ⟨(hTu j hj).2.2.1, (hTu j hj).2.2.2⟩

  by_cases hx : (inB x 8 && inB y 6) = true
  · have hx2 := hx
    rw [Bool.and_eq_true] at hx2
    obtain ⟨i, hi, rfl⟩ := inB_t (n := 8) (by omega) hx2.1
    obtain ⟨j, hj, rfl⟩ := inB_t (n := 6) (by omega) hx2.2
    by_cases hlt : nt < 6
    · refine ⟨nI (nt + 1), _, q_PM_turn1 (d := 39) (n := nt) hi hj hlt, fun r1 h1 q1 => ?_⟩
      obtain ⟨rfl, rfl⟩ := q1
      refine st2 (fun f0 hf => ?_)
      refine ⟨_, q_Rf_turn (d := 39) (n := nt) hnt, fun r2 h2 q2 => ?_⟩
      obtain ⟨rfl, rfl⟩ := q2
      rw [if_pos hx, if_pos hlt]
      refine ⟨rfl, inv_mk2 hf hT hW.up ?_⟩
      rw [if_pos hx, if_pos hx, if_pos hx, if_pos hlt, if_pos hlt, if_pos hlt]
      refine ⟨nt + 1, updN tA nt i, updN tV nt j, by omega, rfl, rfl, fun k hk => ?_⟩
      show (upd fa nt (nI i) k = _ ∧ _) ∧ upd fb nt (nI j) k = _ ∧ _
      by_cases e : k = nt
      · subst e
        rw [pk_us, pk_us, pk_us, pk_us, updN_s, updN_s]
        exact ⟨⟨rfl, rfl, hi⟩, rfl, rfl, hj⟩
      · rw [pk_un e, pk_un e, pk_un e, pk_un e, updN_n e, updN_n e]
        exact hTu k (by omega)
    · refine ⟨-4, _, q_PM_turn2 (d := 39) (n := nt) hi hj (by omega), fun r1 h1 q1 => ?_⟩
      obtain ⟨rfl, rfl⟩ := q1
      refine st2 (fun f0 hf => ?_)
      refine ⟨_, q_Rf_turn (d := 39) (n := nt) hnt, fun r2 h2 q2 => ?_⟩
      obtain ⟨rfl, rfl⟩ := q2
      rw [if_pos hx, if_neg hlt]
      refine ⟨rfl, inv_mk2 hf hT hW.up ?_⟩
      rw [if_pos hx, if_pos hx, if_pos hx, if_neg hlt, if_neg hlt, if_neg hlt]
      exact hU
  · have hx' : (inB x 8 && inB y 6) = false := Bool.eq_false_iff.mpr hx
    refine ⟨-2, _, q_PM_turn0 (d := 39) hx', fun r1 h1 q1 => ?_⟩
    obtain ⟨rfl, rfl⟩ := q1
    refine st2 (fun f0 hf => ?_)
    refine ⟨_, q_Rf_turn (d := 39) (n := nt) hnt, fun r2 h2 q2 => ?_⟩
    obtain ⟨rfl, rfl⟩ := q2
    rw [if_neg hx]
    refine ⟨rfl, inv_mk2 hf hT hW.up ?_⟩
    rw [if_neg hx, if_neg hx, if_neg hx]
    exact hU
theorem pr_unturn (hN : N ≤ 600) : Pr X N M_PM_unturn M_Rf_unturn [] := by
  refine Pr.mk ?_
  intro tx ca cb kt kd sd nw tr ac tu gi mo dn ch s0 s1 z1 z2 z3 z4 z5 z6 z7 z8 z9 y1 y2 y3 y4 rt ho pi rh rp pg rr bk kp ik ta tp ga gr va rw hT hW hU
  obtain ⟨c, p, hc, hp, ht, hr, hs, hg, hh, h0, h1⟩ := id hW
  obtain ⟨nt, tA, tV, hnt, e5, e6, hTu⟩ := id hU
  obtain ⟨fa, fb, al, v2, v3, v4⟩ := tu
  have e5 : v2 = nI nt := e5
  subst e5
  subst e6
  have hta1 : ∀ j, j < nt → fa j = nI (tA j) ∧ tA j < 8 := fun j hj => ⟨(hTu j hj).1.1, (hTu j hj).1.2.2⟩
  have htv1 : ∀ j, j < nt → fb j = nI (tV j) ∧ tV j < 6 := fun j hj => ⟨(hTu j hj).2.1, (hTu j hj).2.2.2⟩
  have hta2 : ∀ j, j < nt → ta j = nI (tA j) ∧ tA j < 8 := fun j hj => ⟨(hTu j hj).1.2.1, (hTu j hj).1.2.2⟩
  have htv2 : ∀ j, j < nt → tp j = nI (tV j) ∧ tV j < 6 := fun j hj => ⟨(hTu j hj).2.2.1, (hTu j hj).2.2.2⟩

  refine ⟨nI nt, _, q_PM_unturn (d := 40), fun r1 h1 q1 => ?_⟩
  obtain ⟨rfl, rfl⟩ := q1
  refine st2 (fun f0 hf => ?_)
  refine ⟨_, q_Rf_unturn (d := 40), fun r2 h2 q2 => ?_⟩
  obtain ⟨rfl, rfl⟩ := q2
  exact ⟨rfl, inv_mk2 hf hT hW.up ⟨0, tA, tV, by omega, rfl, rfl, fun k hk => by omega⟩⟩
theorem pr_may {x : Int32} (hN : N ≤ 600) : Pr X N M_PM_may M_Rf_may [.int x] := by
  refine Pr.mk ?_
  intro tx ca cb kt kd sd nw tr ac tu gi mo dn ch s0 s1 z1 z2 z3 z4 z5 z6 z7 z8 z9 y1 y2 y3 y4 rt ho pi rh rp pg rr bk kp ik ta tp ga gr va rw hT hW hU
  obtain ⟨c, p, hc, hp, ht, hr, hs, hg, hh, h0, h1⟩ := id hW
  obtain ⟨nt, tA, tV, hnt, e5, e6, hTu⟩ := id hU
  obtain ⟨fa, fb, al, v2, v3, v4⟩ := tu
  have e5 : v2 = nI nt := e5
  subst e5
  subst e6
  have hta1 : ∀ j, j < nt → fa j = nI (tA j) ∧ tA j < 8 := fun j hj => ⟨(hTu j hj).1.1, (hTu j hj).1.2.2⟩
  have htv1 : ∀ j, j < nt → fb j = nI (tV j) ∧ tV j < 6 := fun j hj => ⟨(hTu j hj).2.1, (hTu j hj).2.2.2⟩
  have hta2 : ∀ j, j < nt → ta j = nI (tA j) ∧ tA j < 8 := fun j hj => ⟨(hTu j hj).1.2.1, (hTu j hj).1.2.2⟩
  have htv2 : ∀ j, j < nt → tp j = nI (tV j) ∧ tV j < 6 := fun j hj => ⟨(hTu j hj).2.2.1, (hTu j hj).2.2.2⟩

  refine ⟨mayR (fitN tA tV nt) x, _, q_PM_may (d := 34) (ta := tA) (tv := tV) rfl hnt hta1 htv1, fun r1 h1 q1 => ?_⟩
  obtain ⟨rfl, al2, w3, w4, rfl⟩ := q1
  refine st2 (fun f0 hf => ?_)
  refine ⟨_, q_Rf_may (d := 36) (ta := tA) (tv := tV) rfl hnt hta2 htv2, fun r2 h2 q2 => ?_⟩
  obtain ⟨rfl, a2, b2, rfl⟩ := q2
  exact ⟨rfl, inv_mk2 hf hT hW.up ⟨nt, tA, tV, hnt, rfl, rfl, hTu⟩⟩
theorem pr_next (hN : N ≤ 600) : Pr X N M_PM_next M_Rf_next [] := by
  refine Pr.mk ?_
  intro tx ca cb kt kd sd nw tr ac tu gi mo dn ch s0 s1 z1 z2 z3 z4 z5 z6 z7 z8 z9 y1 y2 y3 y4 rt ho pi rh rp pg rr bk kp ik ta tp ga gr va rw hT hW hU
  obtain ⟨c, p, hc, hp, ht, hr, hs, hg, hh, h0, h1⟩ := id hW
  obtain ⟨nt, tA, tV, hnt, e5, e6, hTu⟩ := id hU
  obtain ⟨fa, fb, al, v2, v3, v4⟩ := tu
  have e5 : v2 = nI nt := e5
  subst e5
  subst e6
  have hta1 : ∀ j, j < nt → fa j = nI (tA j) ∧ tA j < 8 := fun j hj => ⟨(hTu j hj).1.1, (hTu j hj).1.2.2⟩
  have htv1 : ∀ j, j < nt → fb j = nI (tV j) ∧ tV j < 6 := fun j hj => ⟨(hTu j hj).2.1, (hTu j hj).2.2.2⟩
  have hta2 : ∀ j, j < nt → ta j = nI (tA j) ∧ tA j < 8 := fun j hj => ⟨(hTu j hj).1.2.1, (hTu j hj).1.2.2⟩
  have htv2 : ∀ j, j < nt → tp j = nI (tV j) ∧ tV j < 6 := fun j hj => ⟨(hTu j hj).2.2.1, (hTu j hj).2.2.2⟩

  refine ⟨oI (nxtN (grtN (fitN tA tV nt))), _, q_PM_next (d := 34) (ta := tA) (tv := tV) rfl hnt hta1 htv1, fun r1 h1 q1 => ?_⟩
  obtain ⟨rfl, al2, w3, w4, rfl⟩ := q1
  refine st2 (fun f0 hf => ?_)
  refine ⟨_, q_Rf_next (d := 35) (ta := tA) (tv := tV) rfl hnt hta2 htv2, fun r2 h2 q2 => ?_⟩
  obtain ⟨rfl, gr2, rfl⟩ := q2
  exact ⟨rfl, inv_mk2 hf hT hW.up ⟨nt, tA, tV, hnt, rfl, rfl, hTu⟩⟩
theorem slr_o {c : CA} {N : Nat} {s : StS} {m m2 : Nat} {kp ik kp2 : FI} {v : Int32} (h : SlR c N s m kp ik) (hm : m ≠ m2) (hn6 : npC c ≤ 6) (hk : ∀ j, j < 14 → kp2 (14 * m + j) = kp (14 * m + j)) : SlR c (N + 1) s m kp2 (upd ik m2 v) := by
  obtain ⟨b, h1, h2, h3⟩ := h
  refine ⟨b, h1, by rw [pk_un hm]; exact h2, fun z => ?_⟩
  obtain ⟨q, h4, h5, h6⟩ := h3 z
  exact ⟨q, h4.up, h5, ⟨fun i hi => by
    have h7 := h6.1 i hi
    have hj := h7
    refine ⟨?_, ?_⟩
    · by_cases h8 : i < 14
      · show kp2 (14 * m + i) = _
        rw [hk i h8]; exact h7.1
      · omega
    · by_cases h8 : 6 + i < 14
      · show kp2 (14 * m + (6 + i)) = _
        rw [hk _ h8]; exact h7.2
      · omega, by show kp2 (14 * m + 12) = _; rw [hk 12 (by omega)]; exact h6.2.1, by show kp2 (14 * m + 13) = _; rw [hk 13 (by omega)]; exact h6.2.2⟩⟩
theorem pr_keep {x : Int32} (hN : N ≤ 600) : Pr X N M_PM_keep M_Rf_keep [.int x] := by
  refine Pr.mk ?_
  intro tx ca cb kt kd sd nw tr ac tu gi mo dn ch s0 s1 z1 z2 z3 z4 z5 z6 z7 z8 z9 y1 y2 y3 y4 rt ho pi rh rp pg rr bk kp ik ta tp ga gr va rw hT hW hU
  obtain ⟨c, p, hc, hp, ht, hr, hs, hg, hh, h0, h1⟩ := id hW
  have b2 := hc.2.1
  by_cases hx : inB x 2 = true
  · obtain ⟨m, hm, rfl⟩ := inB_t (n := 2) (by omega) hx
    rcases (show m = 0 ∨ m = 1 by omega) with rfl | rfl
    · refine ⟨nI (pgH p), _, q_PM_keep0 (d := 38), fun r1 h1x q1 => ?_⟩
      obtain ⟨rfl, rfl⟩ := q1
      rw [show nw.2.2.2.1 = nI (pgH p) from hs.2.2]
      refine st2 (fun f0 hf => ?_)
      refine ⟨_, q_Rf_keep (d := 39) (nu := (z1, z2, z3, z4, z5, z6, z7, z8, z9, sd, y1, y2, y3, y4)) (m := 0) (by omega), fun r2 h2 q2 => ?_⟩
      obtain ⟨rfl, kp2, hk1, hk2, rfl⟩ := q2
      rw [hg.2.2]
      exact ⟨rfl, inv_mk2 hf hT ⟨c, p, hc, hp.up, ht, hr, hs, hg, hh.up, ⟨true, rfl, pk_us, fun _ => ⟨p, hp.up, ⟨(hs.cp (s := s0) b2).1, hs.2⟩, hg.cp b2 (fun j hj => hk2 j hj)⟩⟩, slr_o h1 (by omega) b2 (fun j hj => hk1 _ (by omega))⟩ hU⟩
    · refine ⟨nI (pgH p), _, q_PM_keep1 (d := 38), fun r1 h1x q1 => ?_⟩
      obtain ⟨rfl, rfl⟩ := q1
      rw [show nw.2.2.2.1 = nI (pgH p) from hs.2.2]
      refine st2 (fun f0 hf => ?_)
      refine ⟨_, q_Rf_keep (d := 39) (nu := (z1, z2, z3, z4, z5, z6, z7, z8, z9, sd, y1, y2, y3, y4)) (m := 1) (by omega), fun r2 h2 q2 => ?_⟩
      obtain ⟨rfl, kp2, hk1, hk2, rfl⟩ := q2
      rw [hg.2.2]
      exact ⟨rfl, inv_mk2 hf hT ⟨c, p, hc, hp.up, ht, hr, hs, hg, hh.up, slr_o h0 (by omega) b2 (fun j hj => hk1 _ (by omega)), ⟨true, rfl, pk_us, fun _ => ⟨p, hp.up, ⟨(hs.cp (s := s1) b2).1, hs.2⟩, hg.cp b2 (fun j hj => hk2 j hj)⟩⟩⟩ hU⟩
  · have hx : inB x 2 = false := Bool.eq_false_iff.mpr hx
    refine ⟨-1, _, q_PM_keepX (d := 39) hx, fun r1 h1 q1 => ?_⟩
    obtain ⟨rfl, rfl⟩ := q1
    refine st2 (fun f0 hf => ?_)
    refine ⟨_, q_Rf_keepX (d := 39) hx, fun r2 h2 q2 => ?_⟩
    obtain ⟨rfl, rfl⟩ := q2
    exact ⟨rfl, inv_mk2 hf hT hW.up hU⟩
theorem pr_again {x : Int32} (hN : N ≤ 600) : Pr X N M_PM_again M_Rf_again [.int x] := by
  refine Pr.mk ?_
  intro tx ca cb kt kd sd nw tr ac tu gi mo dn ch s0 s1 z1 z2 z3 z4 z5 z6 z7 z8 z9 y1 y2 y3 y4 rt ho pi rh rp pg rr bk kp ik ta tp ga gr va rw hT hW hU
  obtain ⟨c, p, hc, hp, ht, hr, hs, hg, hh, h0, h1⟩ := id hW
  have b2 := hc.2.1
  by_cases hx : inB x 2 = true
  · obtain ⟨m, hm, rfl⟩ := inB_t (n := 2) (by omega) hx
    rcases (show m = 0 ∨ m = 1 by omega) with rfl | rfl
    · obtain ⟨b, hb1, hb2, hb3⟩ := id h0
      obtain ⟨st, sw, sl, sh2, sk⟩ := s0
      have hb1 : sk = bI b := hb1
      subst hb1
      cases b with
      | false =>
        refine ⟨-3, _, q_PM_again0L (d := 39), fun r1 h1x q1 => ?_⟩
        obtain ⟨rfl, rfl⟩ := q1
        refine st2 (fun f0 hf => ?_)
        refine ⟨_, q_Rf_againL (d := 39) (m := 0) (by omega) hb2, fun r2 h2 q2 => ?_⟩
        obtain ⟨rfl, rfl⟩ := q2
        exact ⟨rfl, inv_mk2 hf hT hW.up hU⟩
      | true =>
        obtain ⟨q, hq1, hq2, hq3⟩ := hb3 rfl
        obtain ⟨row, nac⟩ := ac
        have hsh : sh2 = nI (pgH q) := hq2.2.2
        subst hsh
        refine ⟨nI (pgH q), _, q_PM_again0 (d := 38), fun r1 h1x q1 => ?_⟩
        obtain ⟨rfl, rfl⟩ := q1
        refine st2 (fun f0 hf => ?_)
        refine ⟨_, q_Rf_again (d := 39) (m := 0) (by omega) hb2, fun r2 h2 q2 => ?_⟩
        obtain ⟨rfl, pg2, hp2, rfl⟩ := q2
        rw [show kp (14 * 0 + 13) = nI (pgH q) from hq3.2.2]
        exact ⟨rfl, inv_mk2 hf hT ⟨c, q, hc, hq1.up, ht, hr, hq2.cp b2, hq3.cp b2 hp2, ⟨0, fun _ => q, by omega, rfl, rfl, fun k hk => by omega, rfl⟩, h0.up, h1.up⟩ hU⟩
    · obtain ⟨b, hb1, hb2, hb3⟩ := id h1
      obtain ⟨st, sw, sl, sh2, sk⟩ := s1
      have hb1 : sk = bI b := hb1
      subst hb1
      cases b with
      | false =>
        refine ⟨-3, _, q_PM_again1L (d := 39), fun r1 h1x q1 => ?_⟩
        obtain ⟨rfl, rfl⟩ := q1
        refine st2 (fun f0 hf => ?_)
        refine ⟨_, q_Rf_againL (d := 39) (m := 1) (by omega) hb2, fun r2 h2 q2 => ?_⟩
        obtain ⟨rfl, rfl⟩ := q2
        exact ⟨rfl, inv_mk2 hf hT hW.up hU⟩
      | true =>
        obtain ⟨q, hq1, hq2, hq3⟩ := hb3 rfl
        obtain ⟨row, nac⟩ := ac
        have hsh : sh2 = nI (pgH q) := hq2.2.2
        subst hsh
        refine ⟨nI (pgH q), _, q_PM_again1 (d := 38), fun r1 h1x q1 => ?_⟩
        obtain ⟨rfl, rfl⟩ := q1
        refine st2 (fun f0 hf => ?_)
        refine ⟨_, q_Rf_again (d := 39) (m := 1) (by omega) hb2, fun r2 h2 q2 => ?_⟩
        obtain ⟨rfl, pg2, hp2, rfl⟩ := q2
        rw [show kp (14 * 1 + 13) = nI (pgH q) from hq3.2.2]
        exact ⟨rfl, inv_mk2 hf hT ⟨c, q, hc, hq1.up, ht, hr, hq2.cp b2, hq3.cp b2 hp2, ⟨0, fun _ => q, by omega, rfl, rfl, fun k hk => by omega, rfl⟩, h0.up, h1.up⟩ hU⟩
  · have hx : inB x 2 = false := Bool.eq_false_iff.mpr hx
    refine ⟨-1, _, q_PM_againX (d := 39) hx, fun r1 h1 q1 => ?_⟩
    obtain ⟨rfl, rfl⟩ := q1
    refine st2 (fun f0 hf => ?_)
    refine ⟨_, q_Rf_againX (d := 39) hx, fun r2 h2 q2 => ?_⟩
    obtain ⟨rfl, rfl⟩ := q2
    exact ⟨rfl, inv_mk2 hf hT hW.up hU⟩
/-- the seed: both answer what it was -/
theorem pr_seed {v : Int64} : ∀ h, InvH N h → (∃ fs, h[0]? = some (.inr (7, fs))) ∧ ∃ (w : Int64) (Q1 : Option Value → AH → Prop), Call X 40 0 0 M_PM_seed [.ref 1, .long v] h Q1 ∧ ∀ r1 h1, Q1 r1 h1 → r1 = some (.long w) ∧ (∃ fs, h1[43]? = some (.inr (8, fs))) ∧ ∃ Q2 : Option Value → AH → Prop, Call X 40 0 0 M_Rf_seed [.ref 44, .long v] h1 Q2 ∧ ∀ r2 h2, Q2 r2 h2 → r2 = some (.long w) ∧ InvH (N + 1) h2 := by
  rintro h ⟨tx, ca, cb, kt, kd, sd, nw, tr, ac, tu, gi, mo, dn, ch, s0, s1, z1, z2, z3, z4, z5, z6, z7, z8, z9, y1, y2, y3, y4, rt, ho, pi, rh, rp, pg, rr, bk, kp, ik, ta, tp, ga, gr, va, rw, rfl, hT, hW, hU⟩
  refine ⟨⟨_, rfl⟩, sd, _, q_PM_seed (d := 40), fun r1 h1 q1 => ?_⟩
  obtain ⟨rfl, rfl⟩ := q1
  obtain ⟨f0, hf⟩ := toPX (tx := tx) (ca := ca) (cb := cb) (kt := kt) (kd := kd) (sd := v) (nw := nw) (tr := tr) (ac := ac) (tu := tu) (gi := gi) (mo := mo) (dn := dn) (ch := ch) (s0 := s0) (s1 := s1)
  rw [hf, ← hM_x]
  refine ⟨rfl, ⟨_, rfl⟩, _, q_Rf_seed (d := 40), fun r2 h2 q2 => ?_⟩
  obtain ⟨rfl, rfl⟩ := q2
  exact ⟨rfl, inv_mk2 hf hT hW.up hU⟩
end PAIRS3
