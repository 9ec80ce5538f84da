/-! ===== each call, both sides ===== -/
section PAIRS
variable {X : Nat × (Nat → Int32)} {N : Nat}
theorem pr_shows {x : Int32} {y : Int32} {a : Int32} (hN : N ≤ 600) : Pr X N M_PM_shows M_Rf_shows [.int x, .int y, .int a] := by
  refine Pr.mk ?_
  intro tx ca cb kt kd sd nw tr ac tu gi mo dn ch s0 s1 z1 z2 z3 z4 z5 z6 z7 z8 z9 y1 y2 y3 y4 rt ho pi rh rp pg rr bk kp ik ta tp ga gr va rw hT hW hU
  obtain ⟨c, p, hc, hp, ht, hr, hs, hg, hh, h0, h1⟩ := id hW
  refine ⟨showsR c x y a, _, c_PM_shows (d := 36) hc ht.tl, fun r1 h1 q1 => ?_⟩
  obtain ⟨rfl, rfl⟩ := q1
  refine st2 (fun f0 hf => ?_)
  refine ⟨_, c_Rf_shows (d := 36) hc hr.at2, fun r2 h2 q2 => ?_⟩
  obtain ⟨rfl, rfl⟩ := q2
  exact ⟨rfl, inv_mk2 hf hT hW.up hU⟩
theorem pr_tilts {x : Int32} {y : Int32} (hN : N ≤ 600) : Pr X N M_PM_tilts M_Rf_tilts [.int x, .int y] := by
  refine Pr.mk ?_
  intro tx ca cb kt kd sd nw tr ac tu gi mo dn ch s0 s1 z1 z2 z3 z4 z5 z6 z7 z8 z9 y1 y2 y3 y4 rt ho pi rh rp pg rr bk kp ik ta tp ga gr va rw hT hW hU
  obtain ⟨c, p, hc, hp, ht, hr, hs, hg, hh, h0, h1⟩ := id hW
  refine ⟨tiltsR c p x y, _, c_PM_tilts (d := 34) hc hp.1 ht.tl hs.now, fun r1 h1 q1 => ?_⟩
  obtain ⟨rfl, rfl⟩ := q1
  refine st2 (fun f0 hf => ?_)
  refine ⟨_, c_Rf_tilts (d := 36) hc hp.1 hr.at2 hg.a49, fun r2 h2 q2 => ?_⟩
  obtain ⟨rfl, rfl⟩ := q2
  exact ⟨rfl, inv_mk2 hf hT hW.up hU⟩
theorem pr_finds {x : Int32} {y : Int32} (hN : N ≤ 600) : Pr X N M_PM_finds M_Rf_finds [.int x, .int y] := by
  refine Pr.mk ?_
  intro tx ca cb kt kd sd nw tr ac tu gi mo dn ch s0 s1 z1 z2 z3 z4 z5 z6 z7 z8 z9 y1 y2 y3 y4 rt ho pi rh rp pg rr bk kp ik ta tp ga gr va rw hT hW hU
  obtain ⟨c, p, hc, hp, ht, hr, hs, hg, hh, h0, h1⟩ := id hW
  refine ⟨findsR c p x y, _, c_PM_finds (d := 33) hc hp.1 ht.tl hs.now, fun r1 h1 q1 => ?_⟩
  obtain ⟨rfl, rfl⟩ := q1
  refine st2 (fun f0 hf => ?_)
  refine ⟨_, c_Rf_finds (d := 35) hc hp.1 hr.at2 hg.a49, fun r2 h2 q2 => ?_⟩
  obtain ⟨rfl, rfl⟩ := q2
  exact ⟨rfl, inv_mk2 hf hT hW.up hU⟩
theorem pr_all {x : Int32} (hN : N ≤ 600) : Pr X N M_PM_all M_Rf_all [.int x] := by
  refine Pr.mk ?_
  intro tx ca cb kt kd sd nw tr ac tu gi mo dn ch s0 s1 z1 z2 z3 z4 z5 z6 z7 z8 z9 y1 y2 y3 y4 rt ho pi rh rp pg rr bk kp ik ta tp ga gr va rw hT hW hU
  obtain ⟨c, p, hc, hp, ht, hr, hs, hg, hh, h0, h1⟩ := id hW
  refine ⟨allR c p x, _, c_PM_all (d := 33) hc hp.1 ht.tl hs.now, fun r1 h1 q1 => ?_⟩
  obtain ⟨rfl, rfl⟩ := q1
  refine st2 (fun f0 hf => ?_)
  refine ⟨_, c_Rf_all (d := 35) hc hp.1 hr.at2 hg.a49, fun r2 h2 q2 => ?_⟩
  obtain ⟨rfl, rfl⟩ := q2
  exact ⟨rfl, inv_mk2 hf hT hW.up hU⟩
theorem pr_holder {x : Int32} {y : Int32} (hN : N ≤ 600) : Pr X N M_PM_holder M_Rf_holder [.int x, .int y] := by
  refine Pr.mk ?_
  intro tx ca cb kt kd sd nw tr ac tu gi mo dn ch s0 s1 z1 z2 z3 z4 z5 z6 z7 z8 z9 y1 y2 y3 y4 rt ho pi rh rp pg rr bk kp ik ta tp ga gr va rw hT hW hU
  obtain ⟨c, p, hc, hp, ht, hr, hs, hg, hh, h0, h1⟩ := id hW
  refine ⟨holderR c p x y, _, c_PM_holder (d := 34) hc hp.1 ht.tl hs.now, fun r1 h1 q1 => ?_⟩
  obtain ⟨rfl, rfl⟩ := q1
  refine st2 (fun f0 hf => ?_)
  refine ⟨_, c_Rf_holder (d := 35) hc hp.1 hr.at2 hg.a49, fun r2 h2 q2 => ?_⟩
  obtain ⟨rfl, rfl⟩ := q2
  exact ⟨rfl, inv_mk2 hf hT hW.up hU⟩
theorem pr_piece {x : Int32} {y : Int32} (hN : N ≤ 600) : Pr X N M_PM_piece M_Rf_piece [.int x, .int y] := by
  refine Pr.mk ?_
  intro tx ca cb kt kd sd nw tr ac tu gi mo dn ch s0 s1 z1 z2 z3 z4 z5 z6 z7 z8 z9 y1 y2 y3 y4 rt ho pi rh rp pg rr bk kp ik ta tp ga gr va rw hT hW hU
  obtain ⟨c, p, hc, hp, ht, hr, hs, hg, hh, h0, h1⟩ := id hW
  refine ⟨pieceR c p x y, _, c_PM_piece (d := 35) hc hp.1 ht.tl hs.now, fun r1 h1 q1 => ?_⟩
  obtain ⟨rfl, rfl⟩ := q1
  refine st2 (fun f0 hf => ?_)
  refine ⟨_, c_Rf_piece (d := 36) hc hp.1 hr.at2 hg.a49, fun r2 h2 q2 => ?_⟩
  obtain ⟨rfl, rfl⟩ := q2
  exact ⟨rfl, inv_mk2 hf hT hW.up hU⟩
theorem pr_when {x : Int32} {y : Int32} (hN : N ≤ 600) : Pr X N M_PM_when M_Rf_when [.int x, .int y] := by
  refine Pr.mk ?_
  intro tx ca cb kt kd sd nw tr ac tu gi mo dn ch s0 s1 z1 z2 z3 z4 z5 z6 z7 z8 z9 y1 y2 y3 y4 rt ho pi rh rp pg rr bk kp ik ta tp ga gr va rw hT hW hU
  obtain ⟨c, p, hc, hp, ht, hr, hs, hg, hh, h0, h1⟩ := id hW
  refine ⟨whenR c p x y, _, c_PM_when (d := 33) hc hp.1 ht.tl hs.now, fun r1 h1 q1 => ?_⟩
  obtain ⟨rfl, rfl⟩ := q1
  refine st2 (fun f0 hf => ?_)
  refine ⟨_, q_Rf_when (d := 35) (nu := (z1, z2, z3, z4, z5, z6, z7, z8, z9, sd, y1, y2, y3, y4)) hc hp.1 (by have := hp.2; omega) hr hg, fun r2 h2 q2 => ?_⟩
  obtain ⟨rfl, t2, rfl⟩ := q2
  exact ⟨rfl, inv_mk2 hf hT hW.up hU⟩
theorem pr_share {x : Int32} {u : Bool} (hN : N ≤ 600) : Pr X N M_PM_share M_Rf_share [.int x, .int (bI u)] := by
  refine Pr.mk ?_
  intro tx ca cb kt kd sd nw tr ac tu gi mo dn ch s0 s1 z1 z2 z3 z4 z5 z6 z7 z8 z9 y1 y2 y3 y4 rt ho pi rh rp pg rr bk kp ik ta tp ga gr va rw hT hW hU
  obtain ⟨c, p, hc, hp, ht, hr, hs, hg, hh, h0, h1⟩ := id hW
  refine ⟨shareR c p x u, _, c_PM_share (d := 34) hc hp.1 ht.tl hs.now, fun r1 h1 q1 => ?_⟩
  obtain ⟨rfl, rfl⟩ := q1
  refine st2 (fun f0 hf => ?_)
  refine ⟨_, q_Rf_share (d := 33) (nu := (z1, z2, z3, z4, z5, z6, z7, z8, z9, sd, y1, y2, y3, y4)) hc hp.1 hr hg, fun r2 h2 q2 => ?_⟩
  obtain ⟨rfl, v2, rfl⟩ := q2
  exact ⟨rfl, inv_mk2 hf hT hW.up hU⟩
theorem pr_rests {x : Int32} {y : Int32} {a : Int32} {b : Int32} (hN : N ≤ 600) : Pr X N M_PM_rests M_Rf_rests [.int x, .int y, .int a, .int b] := by
  refine Pr.mk ?_
  intro tx ca cb kt kd sd nw tr ac tu gi mo dn ch s0 s1 z1 z2 z3 z4 z5 z6 z7 z8 z9 y1 y2 y3 y4 rt ho pi rh rp pg rr bk kp ik ta tp ga gr va rw hT hW hU
  obtain ⟨c, p, hc, hp, ht, hr, hs, hg, hh, h0, h1⟩ := id hW
  refine ⟨restsR c p x y a b, _, c_PM_rests (d := 33) hc hp.1 ht.tl hs.now, fun r1 h1 q1 => ?_⟩
  obtain ⟨rfl, rfl⟩ := q1
  refine st2 (fun f0 hf => ?_)
  refine ⟨_, q_Rf_rests (d := 36) hc hp.1 hr hg, fun r2 h2 q2 => ?_⟩
  obtain ⟨rfl, a2, b2, g2, rfl⟩ := q2
  exact ⟨rfl, inv_mk2 hf hT hW.up hU⟩
theorem pr_glints {x : Int32} {y : Int32} {a : Int32} {b : Int32} {u : Bool} (hN : N ≤ 600) : Pr X N M_PM_glints M_Rf_glints [.int x, .int y, .int a, .int b, .int (bI u)] := by
  refine Pr.mk ?_
  intro tx ca cb kt kd sd nw tr ac tu gi mo dn ch s0 s1 z1 z2 z3 z4 z5 z6 z7 z8 z9 y1 y2 y3 y4 rt ho pi rh rp pg rr bk kp ik ta tp ga gr va rw hT hW hU
  obtain ⟨c, p, hc, hp, ht, hr, hs, hg, hh, h0, h1⟩ := id hW
  refine ⟨glintsR c p x y a b u, _, q_PM_glints (d := 33) hc hp.1 ht hs, fun r1 h1 q1 => ?_⟩
  obtain ⟨rfl, ch2, rfl⟩ := q1
  refine st2 (fun f0 hf => ?_)
  refine ⟨_, q_Rf_glints (d := 35) (nu := (z1, z2, z3, z4, z5, z6, z7, z8, z9, sd, y1, y2, y3, y4)) hc hp.1 hr hg, fun r2 h2 q2 => ?_⟩
  obtain ⟨rfl, t2, rfl⟩ := q2
  exact ⟨rfl, inv_mk2 hf hT hW.up hU⟩
theorem pr_giving {u : Bool} (hN : N ≤ 600) : Pr X N M_PM_giving M_Rf_giving [.int (bI u)] := by
  refine Pr.mk ?_
  intro tx ca cb kt kd sd nw tr ac tu gi mo dn ch s0 s1 z1 z2 z3 z4 z5 z6 z7 z8 z9 y1 y2 y3 y4 rt ho pi rh rp pg rr bk kp ik ta tp ga gr va rw hT hW hU
  obtain ⟨c, p, hc, hp, ht, hr, hs, hg, hh, h0, h1⟩ := id hW
  refine ⟨givingR c p u, _, q_PM_giving (d := 26) hc hp.1 ht hs, fun r1 h1 q1 => ?_⟩
  obtain ⟨rfl, gi2, rfl⟩ := q1
  refine st2 (fun f0 hf => ?_)
  refine ⟨_, q_Rf_giving (d := 34) (nu := (z1, z2, z3, z4, z5, z6, z7, z8, z9, sd, y1, y2, y3, y4)) hc hp.1 hr hg, fun r2 h2 q2 => ?_⟩
  obtain ⟨rfl, t2, rfl⟩ := q2
  exact ⟨rfl, inv_mk2 hf hT hW.up hU⟩
theorem pr_judge {x : Int32} {row : Int64} (hN : N ≤ 600) : Pr X N M_PM_judge M_Rf_judge [.int x, .long row] := by
  refine Pr.mk ?_
  intro tx ca cb kt kd sd nw tr ac tu gi mo dn ch s0 s1 z1 z2 z3 z4 z5 z6 z7 z8 z9 y1 y2 y3 y4 rt ho pi rh rp pg rr bk kp ik ta tp ga gr va rw hT hW hU
  obtain ⟨c, p, hc, hp, ht, hr, hs, hg, hh, h0, h1⟩ := id hW
  have hH := hp.2
  refine ⟨judgeR c p x row, _, q_PM_judge (d := 33) hc hp.1 (by omega) ht hs, fun r1 h1 q1 => ?_⟩
  obtain ⟨rfl, tr2, dn2, rfl⟩ := q1
  refine st2 (fun f0 hf => ?_)
  refine ⟨_, q_Rf_judge (d := 34) (nu := (z1, z2, z3, z4, z5, z6, z7, z8, z9, sd, y1, y2, y3, y4)) hc hp.1 (by omega) hr hg, fun r2 h2 q2 => ?_⟩
  obtain ⟨rfl, t2, rfl⟩ := q2
  exact ⟨rfl, inv_mk2 hf hT hW.up hU⟩
theorem pr_years {x : Int32} (hN : N ≤ 600) : Pr X N M_PM_years M_Rf_years [.int x] := by
  refine Pr.mk ?_
  intro tx ca cb kt kd sd nw tr ac tu gi mo dn ch s0 s1 z1 z2 z3 z4 z5 z6 z7 z8 z9 y1 y2 y3 y4 rt ho pi rh rp pg rr bk kp ik ta tp ga gr va rw hT hW hU
  obtain ⟨c, p, hc, hp, ht, hr, hs, hg, hh, h0, h1⟩ := id hW
  have hH := hp.2
  refine ⟨yearsR c p sd x, _, q_PM_years (d := 33) hc hp.1 (by omega) ht hs, fun r1 h1 q1 => ?_⟩
  obtain ⟨rfl, tr2, rfl⟩ := q1
  refine st2 (fun f0 hf => ?_)
  refine ⟨_, q_Rf_years (d := 34) hc hp.1 (by omega) hr hg, fun r2 h2 q2 => ?_⟩
  obtain ⟨rfl, t2, rfl⟩ := q2
  exact ⟨rfl, inv_mk2 hf hT hW.up hU⟩
theorem pr_mothers (hN : N ≤ 600) : Pr X N M_PM_mothers M_Rf_mothers [] := by
  refine Pr.mk ?_
  intro tx ca cb kt kd sd nw tr ac tu gi mo dn ch s0 s1 z1 z2 z3 z4 z5 z6 z7 z8 z9 y1 y2 y3 y4 rt ho pi rh rp pg rr bk kp ik ta tp ga gr va rw hT hW hU
  obtain ⟨c, p, hc, hp, ht, hr, hs, hg, hh, h0, h1⟩ := id hW
  obtain ⟨mo1, mo2⟩ := mo
  have hpp := Nat.two_pow_pos (npC c)
  obtain ⟨k, hk⟩ := fw_ex (c := c) (npC c) (col_n (s := 2 ^ npC c - 1) (by omega))
  refine ⟨nI k, _, q_PM_mothers (d := 36) hc ht, fun r1 h1 q1 => ?_⟩
  obtain ⟨⟨k1, rfl, hk1⟩, fi2, fe2, rfl⟩ := q1
  rw [fw_uni hk1 hk]
  refine st2 (fun f0 hf => ?_)
  refine ⟨_, q_Rf_mothers (d := 37) (nu := (z1, z2, z3, z4, z5, z6, z7, z8, z9, sd, y1, y2, y3, y4)) hc hr, fun r2 h2 q2 => ?_⟩
  obtain ⟨⟨k2, rfl, hk2⟩, w2, rfl⟩ := q2
  rw [fw_uni hk2 hk]
  exact ⟨rfl, inv_mk2 hf hT hW.up hU⟩
end PAIRS
