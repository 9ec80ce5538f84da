/-! ===== each call, both sides: what changes ===== -/
section PAIRS2
variable {X : Nat × (Nat → Int32)} {N : Nat}
theorem pr_write {x : Int32} (hN : N ≤ 600) : Pr X N M_PM_write M_Rf_write [.int x] := by
  refine Pr.mk ?_
  intro tx ca cb kt kd sd nw tr ac tu gi mo dn ch s0 s1 z1 z2 z3 z4 z5 z6 z7 z8 z9 y1 y2 y3 y4 rt ho pi rh rp pg rr bk kp ik ta tp ga gr va rw hT hW hU
  obtain ⟨c, p, hc, hp, ht, hr, hs, hg, hh, h0, h1⟩ := id hW
  obtain ⟨n, bt, hn, e1, e2, hb⟩ := id hT
  obtain ⟨f, tl⟩ := tx
  have e1 : tl = nI n := e1
  subst e1
  subst e2
  have hb1 : ∀ k, k < n → f k = nI (bt k) ∧ bt k < 256 := fun k hk => ⟨(hb k hk).1, (hb k hk).2.2⟩
  have hb2 : ∀ k, k < n → rt k = nI (bt k) ∧ bt k < 256 := fun k hk => ⟨(hb k hk).2.1, (hb k hk).2.2⟩

  refine ⟨(if inB x 256 = true then (if n < 48 then nI (n + 1) else -4) else -2), _, q_PM_write (d := 39) (n := n) (f := f) hn, fun r1 h1 q1 => ?_⟩
  obtain ⟨rfl, rfl⟩ := q1
  refine st2 (fun f0 hf => ?_)
  refine ⟨_, q_Rf_write (d := 39) (n := n) hn, fun r2 h2 q2 => ?_⟩
  obtain ⟨rfl, rfl⟩ := q2
  refine ⟨rfl, inv_mk2 hf ?_ hW.up hU⟩
  by_cases hx : inB x 256 = true
  · obtain ⟨b, hbb, rfl⟩ := inB_t (n := 256) (by omega) hx
    rw [if_pos hx, if_pos hx, if_pos hx]
    by_cases hlt : n < 48
    · rw [if_pos hlt, if_pos hlt, if_pos hlt]
      refine ⟨n + 1, updN bt n b, by omega, rfl, rfl, fun k hk => ?_⟩
      show upd f n (nI b) k = _ ∧ _
      by_cases e : k = n
      · subst e; rw [pk_us, pk_us, updN_s]; exact ⟨rfl, rfl, hbb⟩
      · rw [pk_un e, pk_un e, updN_n e]; exact hb k (by omega)
    · rw [if_neg hlt, if_neg hlt, if_neg hlt]
      exact hT
  · rw [if_neg hx, if_neg hx, if_neg hx]
    exact hT
theorem pr_wipe (hN : N ≤ 600) : Pr X N M_PM_wipe M_Rf_wipe [] := by
  refine Pr.mk ?_
  intro tx ca cb kt kd sd nw tr ac tu gi mo dn ch s0 s1 z1 z2 z3 z4 z5 z6 z7 z8 z9 y1 y2 y3 y4 rt ho pi rh rp pg rr bk kp ik ta tp ga gr va rw hT hW hU
  obtain ⟨c, p, hc, hp, ht, hr, hs, hg, hh, h0, h1⟩ := id hW
  obtain ⟨n, bt, hn, e1, e2, hb⟩ := id hT
  obtain ⟨f, tl⟩ := tx
  have e1 : tl = nI n := e1
  subst e1
  subst e2
  have hb1 : ∀ k, k < n → f k = nI (bt k) ∧ bt k < 256 := fun k hk => ⟨(hb k hk).1, (hb k hk).2.2⟩
  have hb2 : ∀ k, k < n → rt k = nI (bt k) ∧ bt k < 256 := fun k hk => ⟨(hb k hk).2.1, (hb k hk).2.2⟩

  refine ⟨nI n, _, q_PM_wipe (d := 40) (n := n) (f := f), fun r1 h1 q1 => ?_⟩
  obtain ⟨rfl, rfl⟩ := q1
  refine st2 (fun f0 hf => ?_)
  refine ⟨_, q_Rf_wipe (d := 40), fun r2 h2 q2 => ?_⟩
  obtain ⟨rfl, rfl⟩ := q2
  exact ⟨rfl, inv_mk2 hf ⟨0, bt, by omega, rfl, rfl, fun k hk => by omega⟩ hW.up hU⟩
theorem pr_fault (hN : N ≤ 600) : Pr X N M_PM_fault M_Rf_fault [] := by
  refine Pr.mk ?_
  intro tx ca cb kt kd sd nw tr ac tu gi mo dn ch s0 s1 z1 z2 z3 z4 z5 z6 z7 z8 z9 y1 y2 y3 y4 rt ho pi rh rp pg rr bk kp ik ta tp ga gr va rw hT hW hU
  obtain ⟨c, p, hc, hp, ht, hr, hs, hg, hh, h0, h1⟩ := id hW
  obtain ⟨n, bt, hn, e1, e2, hb⟩ := id hT
  obtain ⟨f, tl⟩ := tx
  have e1 : tl = nI n := e1
  subst e1
  subst e2
  have hb1 : ∀ k, k < n → f k = nI (bt k) ∧ bt k < 256 := fun k hk => ⟨(hb k hk).1, (hb k hk).2.2⟩
  have hb2 : ∀ k, k < n → rt k = nI (bt k) ∧ bt k < 256 := fun k hk => ⟨(hb k hk).2.1, (hb k hk).2.2⟩

  rcases ht with ⟨rfl, rfl, hco⟩ | ⟨rfl, rfl, hco⟩
  ·
    refine ⟨fltR bt n, _, q_PM_faultB (d := 36) hn hb1, fun r1 h1 q1 => ?_⟩
    obtain ⟨rfl, cs2, rfl⟩ := q1
    refine st2 (fun f0 hf => ?_)
    rw [hM_x]
    refine ⟨_, q_Rf_fault (d := 35) hn hb2, fun r2 h2 q2 => ?_⟩
    obtain ⟨rfl, w2, w5, w6, w7, rh2, rp2, rfl⟩ := q2
    exact ⟨rfl, inv_mk3 hf hT ⟨c, p, hc, hp.up, Or.inl ⟨rfl, rfl, hco⟩, hr, hs, hg, hh.up, h0.up, h1.up⟩ hU⟩
  ·
    refine ⟨fltR bt n, _, q_PM_faultA (d := 36) hn hb1, fun r1 h1 q1 => ?_⟩
    obtain ⟨rfl, cs2, rfl⟩ := q1
    refine st2 (fun f0 hf => ?_)
    rw [hM_x]
    refine ⟨_, q_Rf_fault (d := 35) hn hb2, fun r2 h2 q2 => ?_⟩
    obtain ⟨rfl, w2, w5, w6, w7, rh2, rp2, rfl⟩ := q2
    exact ⟨rfl, inv_mk3 hf hT ⟨c, p, hc, hp.up, Or.inr ⟨rfl, rfl, hco⟩, hr, hs, hg, hh.up, h0.up, h1.up⟩ hU⟩
theorem pr_coast (hN : N ≤ 600) : Pr X N M_PM_coast M_Rf_coast [] := by
  refine Pr.mk ?_
  intro tx ca cb kt kd sd nw tr ac tu gi mo dn ch s0 s1 z1 z2 z3 z4 z5 z6 z7 z8 z9 y1 y2 y3 y4 rt ho pi rh rp pg rr bk kp ik ta tp ga gr va rw hT hW hU
  obtain ⟨c, p, hc, hp, ht, hr, hs, hg, hh, h0, h1⟩ := id hW
  obtain ⟨n, bt, hn, e1, e2, hb⟩ := id hT
  obtain ⟨f, tl⟩ := tx
  have e1 : tl = nI n := e1
  subst e1
  subst e2
  have hb1 : ∀ k, k < n → f k = nI (bt k) ∧ bt k < 256 := fun k hk => ⟨(hb k hk).1, (hb k hk).2.2⟩
  have hb2 : ∀ k, k < n → rt k = nI (bt k) ∧ bt k < 256 := fun k hk => ⟨(hb k hk).2.1, (hb k hk).2.2⟩

  rcases ht with ⟨rfl, rfl, hco⟩ | ⟨rfl, rfl, hco⟩
  ·
    by_cases hfl : fltR bt n = -9
    · obtain ⟨q, hq, h2⟩ := flt_ok (by omega) hfl
      have hok := psI_ok hq
      refine ⟨nI (ansC q), _, q_PM_coastB (d := 36) hn hb1, fun r1 h1 q1 => ?_⟩
      rcases q1 with ⟨hne, -⟩ | ⟨q', cs2, ft2, fw2, hq', -, rfl, hps, hbb, rfl⟩
      · exact absurd hfl hne
      · rw [hq] at hq'
        cases hq'
        refine st2 (fun f0 hf => ?_)
        rw [hM_x]
        refine ⟨_, q_Rf_coast (d := 35) hn hb2, fun r2 h2 q2 => ?_⟩
        rcases q2 with ⟨hne, -⟩ | ⟨q', w2, w5, rh2, rp2, ho2, pi2, pg2, hq', -, rfl, hrd, hrc, rfl⟩
        · exact absurd hfl hne
        · rw [hq] at hq'
          cases hq'
          refine ⟨rfl, inv_mk3 hf hT ⟨cCA q, cPG q, cCA_ok hok, ⟨cPG_ok hok ‹_›, Nat.zero_le _⟩, Or.inr ⟨rfl, rfl, hps.co⟩, RcV.rf hok hrd hrc, hps.st hok ‹_› hbb, RcV.pv hok ‹_› hrd hrc, ⟨0, fun _ => cPG q, by omega, rfl, rfl, fun k hk => by omega, rfl⟩, ⟨false, rfl, ?_, fun z => by cases z⟩, ⟨false, rfl, ?_, fun z => by cases z⟩⟩ hU⟩
          · rw [pk_un (by omega), pk_us]; rfl
          · rw [pk_us]; rfl
    · refine ⟨-3, _, q_PM_coastB (d := 36) hn hb1, fun r1 h1 q1 => ?_⟩
      rcases q1 with ⟨-, rfl, cs2, rfl⟩ | ⟨q', cs2, ft2, fw2, hq', hq2, rfl, hps, hbb, rfl⟩
      · refine st2 (fun f0 hf => ?_)
        rw [hM_x]
        refine ⟨_, q_Rf_coast (d := 35) hn hb2, fun r2 h2 q2 => ?_⟩
        rcases q2 with ⟨-, rfl, w2, w5, w6, w7, rh2, rp2, rfl⟩ | ⟨q', w2, w5, rh2, rp2, ho2, pi2, pg2, hq', hq2, rfl, hrd, hrc, rfl⟩
        · exact ⟨rfl, inv_mk3 hf hT ⟨c, p, hc, hp.up, Or.inl ⟨rfl, rfl, hco⟩, hr, hs, hg, hh.up, h0.up, h1.up⟩ hU⟩
        · exact absurd (by rw [flt_end hq', if_pos hq2]) hfl
      · exact absurd (by rw [flt_end hq', if_pos hq2]) hfl
  ·
    by_cases hfl : fltR bt n = -9
    · obtain ⟨q, hq, h2⟩ := flt_ok (by omega) hfl
      have hok := psI_ok hq
      refine ⟨nI (ansC q), _, q_PM_coastA (d := 36) hn hb1, fun r1 h1 q1 => ?_⟩
      rcases q1 with ⟨hne, -⟩ | ⟨q', cs2, ft2, fw2, hq', -, rfl, hps, hbb, rfl⟩
      · exact absurd hfl hne
      · rw [hq] at hq'
        cases hq'
        refine st2 (fun f0 hf => ?_)
        rw [hM_x]
        refine ⟨_, q_Rf_coast (d := 35) hn hb2, fun r2 h2 q2 => ?_⟩
        rcases q2 with ⟨hne, -⟩ | ⟨q', w2, w5, rh2, rp2, ho2, pi2, pg2, hq', -, rfl, hrd, hrc, rfl⟩
        · exact absurd hfl hne
        · rw [hq] at hq'
          cases hq'
          refine ⟨rfl, inv_mk3 hf hT ⟨cCA q, cPG q, cCA_ok hok, ⟨cPG_ok hok ‹_›, Nat.zero_le _⟩, Or.inl ⟨rfl, rfl, hps.co⟩, RcV.rf hok hrd hrc, hps.st hok ‹_› hbb, RcV.pv hok ‹_› hrd hrc, ⟨0, fun _ => cPG q, by omega, rfl, rfl, fun k hk => by omega, rfl⟩, ⟨false, rfl, ?_, fun z => by cases z⟩, ⟨false, rfl, ?_, fun z => by cases z⟩⟩ hU⟩
          · rw [pk_un (by omega), pk_us]; rfl
          · rw [pk_us]; rfl
    · refine ⟨-3, _, q_PM_coastA (d := 36) hn hb1, fun r1 h1 q1 => ?_⟩
      rcases q1 with ⟨-, rfl, cs2, rfl⟩ | ⟨q', cs2, ft2, fw2, hq', hq2, rfl, hps, hbb, rfl⟩
      · refine st2 (fun f0 hf => ?_)
        rw [hM_x]
        refine ⟨_, q_Rf_coast (d := 35) hn hb2, fun r2 h2 q2 => ?_⟩
        rcases q2 with ⟨-, rfl, w2, w5, w6, w7, rh2, rp2, rfl⟩ | ⟨q', w2, w5, rh2, rp2, ho2, pi2, pg2, hq', hq2, rfl, hrd, hrc, rfl⟩
        · exact ⟨rfl, inv_mk3 hf hT ⟨c, p, hc, hp.up, Or.inr ⟨rfl, rfl, hco⟩, hr, hs, hg, hh.up, h0.up, h1.up⟩ hU⟩
        · exact absurd (by rw [flt_end hq', if_pos hq2]) hfl
      · exact absurd (by rw [flt_end hq', if_pos hq2]) hfl
theorem pr_about {x : Int32} (hN : N ≤ 600) : Pr X N M_PM_about M_Rf_about [.int x] := by
  refine Pr.mk ?_
  intro tx ca cb kt kd sd nw tr ac tu gi mo dn ch s0 s1 z1 z2 z3 z4 z5 z6 z7 z8 z9 y1 y2 y3 y4 rt ho pi rh rp pg rr bk kp ik ta tp ga gr va rw hT hW hU
  obtain ⟨c, p, hc, hp, ht, hr, hs, hg, hh, h0, h1⟩ := id hW
  obtain ⟨n, bt, hn, e1, e2, hb⟩ := id hT
  obtain ⟨f, tl⟩ := tx
  have e1 : tl = nI n := e1
  subst e1
  subst e2
  have hb1 : ∀ k, k < n → f k = nI (bt k) ∧ bt k < 256 := fun k hk => ⟨(hb k hk).1, (hb k hk).2.2⟩
  have hb2 : ∀ k, k < n → rt k = nI (bt k) ∧ bt k < 256 := fun k hk => ⟨(hb k hk).2.1, (hb k hk).2.2⟩
  obtain ⟨na, P, hna, e3, e4, hP, hPn⟩ := id hh
  obtain ⟨row, nac⟩ := ac
  have e3 : nac = nI na := e3
  subst e3
  subst e4
  obtain ⟨nt, tA, tV, hnt, e5, e6, hTu⟩ := id hU
  obtain ⟨fa, fb, al, v2, v3, v4⟩ := tu
  have e5 : v2 = nI nt := e5
  subst e5
  subst e6
  have hta1 : ∀ j, j < nt → fa j = nI (tA j) ∧ tA j < 8 := fun j hj => ⟨(hTu j hj).1.1, (hTu j hj).1.2.2⟩
  have htv1 : ∀ j, j < nt → fb j = nI (tV j) ∧ tV j < 6 := fun j hj => ⟨(hTu j hj).2.1, (hTu j hj).2.2.2⟩
  have hta2 : ∀ j, j < nt → ta j = nI (tA j) ∧ tA j < 8 := fun j hj => ⟨(hTu j hj).1.2.1, (hTu j hj).1.2.2⟩
  have htv2 : ∀ j, j < nt → tp j = nI (tV j) ∧ tV j < 6 := fun j hj => ⟨(hTu j hj).2.2.1, (hTu j hj).2.2.2⟩

  obtain ⟨rfl, rfl, hr3, hr4⟩ := hr
  have hr : RfR c (nI (nhC c)) (nI (npC c)) ho pi := ⟨rfl, rfl, hr3, hr4⟩
  refine ⟨aboutR c p na nt n x, _, c_PM_about (d := 33) hc hp.1 ht.tl hs.now rfl rfl rfl, fun r1 h1 q1 => ?_⟩
  obtain ⟨rfl, rfl⟩ := q1
  refine st2 (fun f0 hf => ?_)
  refine ⟨_, c_Rf_about (d := 34) hc hp.1 hr.at2 hg.a49 rfl, fun r2 h2 q2 => ?_⟩
  obtain ⟨rfl, rfl⟩ := q2
  exact ⟨rfl, inv_mk2 hf hT hW.up hU⟩
theorem pr_tilt {x : Int32} {u : Bool} (hN : N ≤ 600) : Pr X N M_PM_tilt M_Rf_tilt [.int x, .int (bI u)] := by
  refine Pr.mk ?_
  intro tx ca cb kt kd sd nw tr ac tu gi mo dn ch s0 s1 z1 z2 z3 z4 z5 z6 z7 z8 z9 y1 y2 y3 y4 rt ho pi rh rp pg rr bk kp ik ta tp ga gr va rw hT hW hU
  obtain ⟨c, p, hc, hp, ht, hr, hs, hg, hh, h0, h1⟩ := id hW
  obtain ⟨na, P, hna, e3, e4, hP, hPn⟩ := id hh
  obtain ⟨row, nac⟩ := ac
  have e3 : nac = nI na := e3
  subst e3
  subst e4
  obtain ⟨ft, fw, li, hq0, ke⟩ := nw

  have b2 := hc.2.1
  by_cases hx : inB x (npC c) = true
  · obtain ⟨i, hi, rfl⟩ := inB_t (by omega) hx
    refine ⟨nI (tiN (pgT p i) u), _, q_PM_tilt (d := 37) (T := pgT p i) (n := na) ht hc hi (hs.1 i hi).1 hna, fun r1 h1 q1 => ?_⟩
    obtain ⟨rfl, rfl⟩ := q1
    refine st2 (fun f0 hf => ?_)
    refine ⟨_, q_Rf_tilt (d := 38) (T := pgT p i) (n := na) hc hr.at2 hi hna (hg.1 i hi).1 (hp.1.2.2 i hi).1, fun r2 h2 q2 => ?_⟩
    obtain ⟨rfl, bk2, n2, hB, rfl⟩ := q2
    exact ⟨rfl, inv_mk2 hf hT ⟨c, tlP p i u, hc, ⟨tl_ok hp.1, Nat.le_succ_of_le hp.2⟩, ht, hr, hs.tilt, hg.tilt b2 hi, hist_add hna hP hPn hp hg b2 hB (Or.inl ⟨i, u, hi, rfl, rfl⟩), h0.up, h1.up⟩ hU⟩
  · have hx : inB x (npC c) = false := Bool.eq_false_iff.mpr hx
    refine ⟨-1, _, q_PM_tilt0 (d := 38) ht hx, fun r1 h1 q1 => ?_⟩
    obtain ⟨rfl, rfl⟩ := q1
    refine st2 (fun f0 hf => ?_)
    refine ⟨_, q_Rf_tilt0 (d := 38) hc hr.at2 hx, fun r2 h2 q2 => ?_⟩
    obtain ⟨rfl, rfl⟩ := q2
    exact ⟨rfl, inv_mk2 hf hT hW.up hU⟩
theorem pr_give {x : Int32} {y : Int32} (hN : N ≤ 600) : Pr X N M_PM_give M_Rf_give [.int x, .int y] := by
  refine Pr.mk ?_
  intro tx ca cb kt kd sd nw tr ac tu gi mo dn ch s0 s1 z1 z2 z3 z4 z5 z6 z7 z8 z9 y1 y2 y3 y4 rt ho pi rh rp pg rr bk kp ik ta tp ga gr va rw hT hW hU
  obtain ⟨c, p, hc, hp, ht, hr, hs, hg, hh, h0, h1⟩ := id hW
  obtain ⟨na, P, hna, e3, e4, hP, hPn⟩ := id hh
  obtain ⟨row, nac⟩ := ac
  have e3 : nac = nI na := e3
  subst e3
  subst e4
  obtain ⟨ft, fw, li, hq0, ke⟩ := nw

  have b1 := hc.1
  have b2 := hc.2.1
  by_cases hx : (inB x (npC c) && inB y (nhC c)) = true
  · rw [Bool.and_eq_true] at hx
    obtain ⟨i, hi, rfl⟩ := inB_t (by omega) hx.1
    obtain ⟨j, hj, rfl⟩ := inB_t (by omega) hx.2
    have hw4 := (hp.1.2.2 i hi).2
    by_cases hwj : pgW p i = j
    · refine ⟨-3, _, q_PM_give1 (d := 38) ht hc hi hj (by rw [← hwj]; exact (hs.1 i hi).2), fun r1 h1 q1 => ?_⟩
      obtain ⟨rfl, rfl⟩ := q1
      refine st2 (fun f0 hf => ?_)
      refine ⟨_, q_Rf_give1 (d := 38) hc hr.at2 hi hj (by rw [← hwj]; exact (hg.1 i hi).2), fun r2 h2 q2 => ?_⟩
      obtain ⟨rfl, rfl⟩ := q2
      exact ⟨rfl, inv_mk2 hf hT hW.up hU⟩
    · refine ⟨nI (pgW p i), _, q_PM_give (d := 38) (W := pgW p i) (n := na) ht hc hi hj (hs.1 i hi).2 (by omega) hwj hna, fun r1 h1 q1 => ?_⟩
      obtain ⟨rfl, rfl⟩ := q1
      refine st2 (fun f0 hf => ?_)
      refine ⟨_, q_Rf_give (d := 38) (W := pgW p i) (n := na) hc hr.at2 hi hj hna (hg.1 i hi).2 (by omega) hwj, fun r2 h2 q2 => ?_⟩
      obtain ⟨rfl, bk2, n2, hB, rfl⟩ := q2
      exact ⟨rfl, inv_mk2 hf hT ⟨c, gvP p i j, hc, ⟨gv_ok hp.1 hj, Nat.le_succ_of_le hp.2⟩, ht, hr, hs.give, hg.give b2 hi, hist_add hna hP hPn hp hg b2 hB (Or.inr (Or.inl ⟨i, j, hi, rfl, rfl⟩)), h0.up, h1.up⟩ hU⟩
  · have hx : (inB x (npC c) && inB y (nhC c)) = false := Bool.eq_false_iff.mpr hx
    refine ⟨-1, _, q_PM_give0 (d := 38) ht hx, fun r1 h1 q1 => ?_⟩
    obtain ⟨rfl, rfl⟩ := q1
    refine st2 (fun f0 hf => ?_)
    refine ⟨_, q_Rf_give0 (d := 38) hc hr.at2 hx, fun r2 h2 q2 => ?_⟩
    obtain ⟨rfl, rfl⟩ := q2
    exact ⟨rfl, inv_mk2 hf hT hW.up hU⟩
theorem pr_hour (hN : N ≤ 600) : Pr X N M_PM_hour M_Rf_hour [] := by
  refine Pr.mk ?_
  intro tx ca cb kt kd sd nw tr ac tu gi mo dn ch s0 s1 z1 z2 z3 z4 z5 z6 z7 z8 z9 y1 y2 y3 y4 rt ho pi rh rp pg rr bk kp ik ta tp ga gr va rw hT hW hU
  obtain ⟨c, p, hc, hp, ht, hr, hs, hg, hh, h0, h1⟩ := id hW
  obtain ⟨na, P, hna, e3, e4, hP, hPn⟩ := id hh
  obtain ⟨row, nac⟩ := ac
  have e3 : nac = nI na := e3
  subst e3
  subst e4
  obtain ⟨ft, fw, li, hq0, ke⟩ := nw
  have e7 : li = nI (pgL p) := hs.2.1
  have e8 : hq0 = nI (pgH p) := hs.2.2
  subst e7
  subst e8

  have b2 := hc.2.1
  have hH := hp.2
  refine ⟨nI ((pgL p + 1) % 8), _, q_PM_hour (d := 37) (n := na) hna, fun r1 h1 q1 => ?_⟩
  obtain ⟨rfl, rfl⟩ := q1
  refine st2 (fun f0 hf => ?_)
  refine ⟨_, q_Rf_hour (d := 39) (n := na) hna hg.2.1 hg.2.2 hp.1.1, fun r2 h2 q2 => ?_⟩
  obtain ⟨rfl, bk2, n2, hB, rfl⟩ := q2
  exact ⟨rfl, inv_mk2 hf hT ⟨c, hourN p 1, hc, ⟨⟨Nat.mod_lt _ (by omega), by show pgH p + 1 ≤ 1000; omega, hp.1.2.2⟩, by show pgH p + 1 ≤ N + 1; omega⟩, ht, hr, hs.hour, hg.hour b2, hist_add hna hP hPn hp hg b2 hB (Or.inr (Or.inr ⟨rfl, rfl⟩)), h0.up, h1.up⟩ hU⟩
theorem pr_undo (hN : N ≤ 600) : Pr X N M_PM_undo M_Rf_undo [] := by
  refine Pr.mk ?_
  intro tx ca cb kt kd sd nw tr ac tu gi mo dn ch s0 s1 z1 z2 z3 z4 z5 z6 z7 z8 z9 y1 y2 y3 y4 rt ho pi rh rp pg rr bk kp ik ta tp ga gr va rw hT hW hU
  obtain ⟨c, p, hc, hp, ht, hr, hs, hg, hh, h0, h1⟩ := id hW
  obtain ⟨na, P, hna, e3, e4, hP, hPn⟩ := id hh
  obtain ⟨row, nac⟩ := ac
  have e3 : nac = nI na := e3
  subst e3
  subst e4
  obtain ⟨ft, fw, li, hq0, ke⟩ := nw
  have e7 : li = nI (pgL p) := hs.2.1
  have e8 : hq0 = nI (pgH p) := hs.2.2
  subst e7
  subst e8

  have b2 := hc.2.1
  have hH := hp.2
  cases na with
  | zero =>
    refine ⟨-3, _, q_PM_undo0 (d := 40), fun r1 h1 q1 => ?_⟩
    obtain ⟨rfl, rfl⟩ := q1
    refine st2 (fun f0 hf => ?_)
    refine ⟨_, q_Rf_undo0 (d := 40), fun r2 h2 q2 => ?_⟩
    obtain ⟨rfl, rfl⟩ := q2
    exact ⟨rfl, inv_mk2 hf hT hW.up hU⟩
  | succ na =>
    have hPk := hP na (by omega)
    rw [hPn] at hPk
    have hsl : ∀ k, k < npC c → ft k = nI (pgT p k) ∧ fw k = nI (pgW p k) := hs.1
    have hok := hPk.1.1
    rcases hPk.2.2 with ⟨i, b, hi, hv, hpq⟩ | ⟨i, j, hi, hv, hpq⟩ | ⟨hv, hpq⟩
    · have hv : row na = nI (100 * 1 + 10 * i + (if b = true then 1 else 0)) := hv
      have hT8 := (hok.2.2 i hi).1
      have hTi : pgT p i = tiN (pgT (P na) i) b := by rw [hpq]; exact if_pos rfl
      have hs2 : StR c (P na) (upd ft i (nI ((pgT p i + (if (if b = true then 1 else 0) = 1 then 7 else 1)) % 8)), fw, nI (pgL p), nI (pgH p), ke) := by
        refine ⟨fun k hk => ⟨?_, ?_⟩, by rw [hpq]; rfl, by rw [hpq]; rfl⟩
        · show upd ft i _ k = nI (pgT (P na) k)
          by_cases e : k = i
          · subst e
            rw [pk_us, hTi, tiN]
            congr 1
            cases b
            · simp only [Bool.false_eq_true, if_false]
              rw [if_neg (by omega)]
              omega
            · simp only [if_true]
              omega
          · rw [pk_un e, (hsl k hk).1, hpq]
            exact congrArg nI (if_neg e)
        · show fw k = nI (pgW (P na) k)
          rw [(hsl k hk).2, hpq]
          rfl
      refine ⟨nI na, _, q_PM_undo (d := 37) (n := na) (by omega) (by rw [hv]; exact q_PM_back1 (i := i) (b := if b = true then 1 else 0) (T := pgT p i) (by omega) (by split <;> omega) (hsl i hi).1), fun r1 h1 q1 => ?_⟩
      obtain ⟨rfl, rfl⟩ := q1
      refine st2 (fun f0 hf => ?_)
      refine ⟨_, q_Rf_undo (d := 40) (n := na) (by omega), fun r2 h2 q2 => ?_⟩
      obtain ⟨rfl, pg2, hpg2, rfl⟩ := q2
      exact ⟨rfl, inv_mk2 hf hT ⟨c, P na, hc, hPk.1.up, ht, hr, hs2, hPk.2.1.cp b2 hpg2, ⟨na, P, by omega, rfl, rfl, fun k hk => ⟨(hP k (by omega)).1.up, (hP k (by omega)).2⟩, rfl⟩, h0.up, h1.up⟩ hU⟩
    · have hv : row na = nI (100 * 2 + 10 * i + pgW (P na) i) := hv
      have hW4 := (hok.2.2 i hi).2
      have b1 := hc.1
      have hs2 : StR c (P na) (ft, upd fw i (nI (pgW (P na) i)), nI (pgL p), nI (pgH p), ke) := by
        refine ⟨fun k hk => ⟨?_, ?_⟩, by rw [hpq]; rfl, by rw [hpq]; rfl⟩
        · show ft k = nI (pgT (P na) k)
          rw [(hsl k hk).1, hpq]
          rfl
        · show upd fw i _ k = nI (pgW (P na) k)
          by_cases e : k = i
          · subst e; exact pk_us
          · rw [pk_un e, (hsl k hk).2, hpq]
            exact congrArg nI (if_neg e)
      refine ⟨nI na, _, q_PM_undo (d := 37) (n := na) (by omega) (by rw [hv]; exact q_PM_back2 (i := i) (j := pgW (P na) i) (by omega) (by omega)), fun r1 h1 q1 => ?_⟩
      obtain ⟨rfl, rfl⟩ := q1
      refine st2 (fun f0 hf => ?_)
      refine ⟨_, q_Rf_undo (d := 40) (n := na) (by omega), fun r2 h2 q2 => ?_⟩
      obtain ⟨rfl, pg2, hpg2, rfl⟩ := q2
      exact ⟨rfl, inv_mk2 hf hT ⟨c, P na, hc, hPk.1.up, ht, hr, hs2, hPk.2.1.cp b2 hpg2, ⟨na, P, by omega, rfl, rfl, fun k hk => ⟨(hP k (by omega)).1.up, (hP k (by omega)).2⟩, rfl⟩, h0.up, h1.up⟩ hU⟩
    · have hv : row na = nI 300 := hv
      have eL : pgL p = (pgL (P na) + 1) % 8 := by rw [hpq]; rfl
      have eH : pgH p = pgH (P na) + 1 := by rw [hpq]; rfl
      have hL8 := hok.1
      have hs2 : StR c (P na) (ft, fw, nI ((pgL p + 7) % 8), nI (pgH (P na)), ke) := by
        refine ⟨fun k hk => ⟨?_, ?_⟩, ?_, rfl⟩
        · show ft k = nI (pgT (P na) k)
          rw [(hsl k hk).1, hpq]
          rfl
        · show fw k = nI (pgW (P na) k)
          rw [(hsl k hk).2, hpq]
          rfl
        · show nI ((pgL p + 7) % 8) = nI (pgL (P na))
          rw [eL]
          congr 1
          omega
      rw [eH]
      refine ⟨nI na, _, q_PM_undo (d := 37) (n := na) (by omega) (by rw [hv]; exact q_PM_back3 (l := pgL p) (hh := pgH (P na))), fun r1 h1 q1 => ?_⟩
      obtain ⟨rfl, rfl⟩ := q1
      refine st2 (fun f0 hf => ?_)
      refine ⟨_, q_Rf_undo (d := 40) (n := na) (by omega), fun r2 h2 q2 => ?_⟩
      obtain ⟨rfl, pg2, hpg2, rfl⟩ := q2
      exact ⟨rfl, inv_mk2 hf hT ⟨c, P na, hc, hPk.1.up, ht, hr, hs2, hPk.2.1.cp b2 hpg2, ⟨na, P, by omega, rfl, rfl, fun k hk => ⟨(hP k (by omega)).1.up, (hP k (by omega)).2⟩, rfl⟩, h0.up, h1.up⟩ hU⟩
end PAIRS2
