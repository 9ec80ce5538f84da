/-! ===== rests, when (the reference) ===== -/
/-- the reference's rows that stand for the coast -/
def RfR (c : CA) (nh np : Int32) (ho pi : FI) : Prop := nh = nI (nhC c) ∧ np = nI (npC c) ∧ (∀ j, j < nhC c → ho j = nI (hkC c j)) ∧ ∀ i, i < npC c → pi (3 * i) = nI (ptC c i) ∧ pi (3 * i + 1) = nI (anC c i) ∧ pi (3 * i + 2) = nI (kdC c i)
section RRESTS
variable {X : Nat × (Nat → Int32)} {d : Nat} {c : CA} {p : PG} {f0 : Nat → AC} {nu : NuS} {tx ho pi rh rp pg tr bk kp ik ta tp ga gr va rw : FI} {z1 z2 z3 z4 z5 z6 z7 z8 z9 y1 y2 y3 y4 : Int32} {sd : Int64}
theorem RfR.at (h : RfR c nu.2.2.1 nu.2.2.2.1 ho pi) : RfAt (PX f0 ++ hM nu tx ho pi rh rp pg tr bk kp ik ta tp ga gr va rw) c := ⟨_, _, _, _, _, _, _, _, _, _, _, _, _, _, by rw [← h.1, ← h.2.1]; rfl, rfl, rfl, h.2.2.1, h.2.2.2⟩
theorem PgV.a49 (h : PgV c p pg) : PgAt (PX f0 ++ hM nu tx ho pi rh rp pg tr bk kp ik ta tp ga gr va rw) 49 c p := ⟨pg, rfl, h⟩
theorem PgV.a50 (h : PgV c p tr) : PgAt (PX f0 ++ hM nu tx ho pi rh rp pg tr bk kp ik ta tp ga gr va rw) 50 c p := ⟨tr, rfl, h⟩
theorem r_rests225 {i j o wq k u : Nat} {v R0 : Int32} {F : Nat → Bool} {g2 : FI} {v6 : Option Value} (b : Bool) (hk4 : k < 4) (wu : u ≤ 4) (hb : F k = b) (hu : u = cntU F k) (hv : v = fir2 F cd2 k)
    (ih : ∀ (u : Nat) (v : Int32) v6, u = cntU F (k + 1) → v = fir2 F cd2 (k + 1) → Run X (d + 4) 0 0 M_Rf_rests 164 [some (.ref 44), some (.int (nI i)), some (.int (nI j)), some (.int (nI o)), some (.int (nI wq)), some (.int (nI (k + 1))), v6] [] (PX f0 ++ hM (z1, z2, z3, z4, z5, z6, z7, z8, z9, sd, y1, y2, (nI u), v) tx ho pi rh rp pg tr bk kp ik ta tp g2 gr va rw) (fun r h2 => r = some (.int R0) ∧ ∃ a2 b2 g2, h2 = PX f0 ++ hM (z1, z2, z3, z4, z5, z6, z7, z8, z9, sd, y1, y2, a2, b2) tx ho pi rh rp pg tr bk kp ik ta tp g2 gr va rw)) : Run X (d + 4) 0 0 M_Rf_rests 225 [some (.ref 44), some (.int (nI i)), some (.int (nI j)), some (.int (nI o)), some (.int (nI wq)), some (.int (nI k)), v6] [.int (bI b)] (PX f0 ++ hM (z1, z2, z3, z4, z5, z6, z7, z8, z9, sd, y1, y2, (nI u), v) tx ho pi rh rp pg tr bk kp ik ta tp g2 gr va rw) (fun r h2 => r = some (.int R0) ∧ ∃ a2 b2 g2, h2 = PX f0 ++ hM (z1, z2, z3, z4, z5, z6, z7, z8, z9, sd, y1, y2, a2, b2) tx ho pi rh rp pg tr bk kp ik ta tp g2 gr va rw) := by
  have e1 : F k = true → cntU F (k + 1) = u + 1 := fun q => by rw [cntU_s, if_pos q, hu]
  have e2 : F k = false → cntU F (k + 1) = u := fun q => by rw [cntU_s, if_neg (by rw [q]; decide), hu]
  have e3 : F k = false → fir2 F cd2 (k + 1) = v := fun q => by rw [fir2_s, if_neg (fun z => by rw [q] at z; cases z.1), hv]
  have e4 : F k = true → u = 0 → fir2 F cd2 (k + 1) = nI (10 * (k / 2) + k % 2) := sorry
  have e5 : F k = true → ¬ u = 0 → fir2 F cd2 (k + 1) = v := fun q1 q2 => by rw [fir2_s, if_neg (fun z => q2 (by rw [hu]; exact z.2)), hv]
  cases b with
  | false =>
    refine Run.istore d_Rf_rests_225 rfl rfl ?_
    show Run _ _ _ _ _ _ [_, _, _, _, _, _, _] _ _ _
    refine Run.aload_n d_Rf_rests_227 rfl ?_
    refine Run.iload d_Rf_rests_228 rfl ?_
    first | refine Run.if_eq_b d_Rf_rests_230 (fun c230 => ?_) (fun c230 => ?_) | refine Run.if_eq_n d_Rf_rests_230 (by omega) (fun c230 => ?_) (fun c230 => ?_) | refine Run.if_eq d_Rf_rests_230 (fun c230 => ?_) (fun c230 => ?_)
    · refine Run.aload_n d_Rf_rests_255 rfl ?_
      refine Run.getf d_Rf_rests_256 fl_Rf_237 (by first | rfl | assumption) (by rfl) ?_
      refine Run.putf d_Rf_rests_259 fl_Rf_237 (fun _ => rfl) (fun _ => rfl) (by first | rfl | assumption) (by exact Nat.le_of_ble_eq_true rfl) ?_
      refine run_hp (show _ = PX f0 ++ hM (z1, z2, z3, z4, z5, z6, z7, z8, z9, sd, y1, y2, (nI u), v) tx ho pi rh rp pg tr bk kp ik ta tp g2 gr va rw from rfl) ?_
      refine Run.aload_n d_Rf_rests_262 rfl ?_
      refine Run.dup d_Rf_rests_263 rfl ?_
      refine Run.getf d_Rf_rests_264 fl_Rf_234 (by first | rfl | assumption) (by rfl) ?_
      refine Run.iload d_Rf_rests_267 rfl ?_
      first | refine Run.if_eq_b d_Rf_rests_269 (fun c269 => ?_) (fun c269 => ?_) | refine Run.if_eq_n d_Rf_rests_269 (by omega) (fun c269 => ?_) (fun c269 => ?_) | refine Run.if_eq d_Rf_rests_269 (fun c269 => ?_) (fun c269 => ?_)
      · refine Run.iconst (v := nI 0) d_Rf_rests_276 ic_0 ?_
        first | refine Run.iadd_n d_Rf_rests_277 ?_ | refine Run.iadd d_Rf_rests_277 ?_
        rw [Nat.add_zero]
        refine Run.putf d_Rf_rests_278 fl_Rf_234 (fun _ => rfl) (fun _ => rfl) (by first | rfl | assumption) (by exact Nat.le_of_ble_eq_true rfl) ?_
        refine run_hp (show _ = PX f0 ++ hM (z1, z2, z3, z4, z5, z6, z7, z8, z9, sd, y1, y2, (nI u), v) tx ho pi rh rp pg tr bk kp ik ta tp g2 gr va rw from rfl) ?_
        first | refine Run.iinc_n d_Rf_rests_281 ic_1 rfl rfl ?_ | refine Run.iinc d_Rf_rests_281 rfl rfl rfl ?_
        show Run _ _ _ _ _ _ [_, _, _, _, _, _, _] _ _ _
        refine Run.goto d_Rf_rests_284 ?_
        sorry
      · cases c269
    · cases c230
  | true =>
    refine Run.istore d_Rf_rests_225 rfl rfl ?_
    show Run _ _ _ _ _ _ [_, _, _, _, _, _, _] _ _ _
    refine Run.aload_n d_Rf_rests_227 rfl ?_
    refine Run.iload d_Rf_rests_228 rfl ?_
    first | refine Run.if_eq_b d_Rf_rests_230 (fun c230 => ?_) (fun c230 => ?_) | refine Run.if_eq_n d_Rf_rests_230 (by omega) (fun c230 => ?_) (fun c230 => ?_) | refine Run.if_eq d_Rf_rests_230 (fun c230 => ?_) (fun c230 => ?_)
    · cases c230
    · refine Run.aload_n d_Rf_rests_233 rfl ?_
      refine Run.getf d_Rf_rests_234 fl_Rf_234 (by first | rfl | assumption) (by rfl) ?_
      first | refine Run.if_ne_b d_Rf_rests_237 (fun c237 => ?_) (fun c237 => ?_) | refine Run.if_ne_n d_Rf_rests_237 (by omega) (fun c237 => ?_) (fun c237 => ?_) | refine Run.if_ne d_Rf_rests_237 (fun c237 => ?_) (fun c237 => ?_)
      · generalize hw : v = w
        have e6 : fir2 F cd2 (k + 1) = w := by rw [← hw]; exact e5 hb c237
        refine Run.aload_n d_Rf_rests_255 rfl ?_
        refine Run.getf d_Rf_rests_256 fl_Rf_237 (by first | rfl | assumption) (by rfl) ?_
        refine Run.putf d_Rf_rests_259 fl_Rf_237 (fun _ => rfl) (fun _ => rfl) (by first | rfl | assumption) (by exact Nat.le_of_ble_eq_true rfl) ?_
        refine run_hp (show _ = PX f0 ++ hM (z1, z2, z3, z4, z5, z6, z7, z8, z9, sd, y1, y2, (nI u), w) tx ho pi rh rp pg tr bk kp ik ta tp g2 gr va rw from rfl) ?_
        refine Run.aload_n d_Rf_rests_262 rfl ?_
        refine Run.dup d_Rf_rests_263 rfl ?_
        refine Run.getf d_Rf_rests_264 fl_Rf_234 (by first | rfl | assumption) (by rfl) ?_
        refine Run.iload d_Rf_rests_267 rfl ?_
        first | refine Run.if_eq_b d_Rf_rests_269 (fun c269 => ?_) (fun c269 => ?_) | refine Run.if_eq_n d_Rf_rests_269 (by omega) (fun c269 => ?_) (fun c269 => ?_) | refine Run.if_eq d_Rf_rests_269 (fun c269 => ?_) (fun c269 => ?_)
        · cases c269
        · refine Run.iconst (v := nI 1) d_Rf_rests_272 ic_1 ?_
          refine Run.goto d_Rf_rests_273 ?_
          first | refine Run.iadd_n d_Rf_rests_277 ?_ | refine Run.iadd d_Rf_rests_277 ?_
          generalize hu1 : u + 1 = u1
          rw [hu1] at e1
          refine Run.putf d_Rf_rests_278 fl_Rf_234 (fun _ => rfl) (fun _ => rfl) (by first | rfl | assumption) (by exact Nat.le_of_ble_eq_true rfl) ?_
          refine run_hp (show _ = PX f0 ++ hM (z1, z2, z3, z4, z5, z6, z7, z8, z9, sd, y1, y2, (nI u1), w) tx ho pi rh rp pg tr bk kp ik ta tp g2 gr va rw from rfl) ?_
          first | refine Run.iinc_n d_Rf_rests_281 ic_1 rfl rfl ?_ | refine Run.iinc d_Rf_rests_281 rfl rfl rfl ?_
          show Run _ _ _ _ _ _ [_, _, _, _, _, _, _] _ _ _
          refine Run.goto d_Rf_rests_284 ?_
          exact ih u1 w _ (e1 hb).symm e6.symm
      · refine Run.bipush (v := nI 10) d_Rf_rests_240 bp_10 ?_
        refine Run.iload d_Rf_rests_242 rfl ?_
        refine Run.iconst (v := nI 2) d_Rf_rests_244 ic_2 ?_
        first | refine Run.idiv_n d_Rf_rests_245 (by omega) (by omega) (by omega) ?_ | refine Run.idiv d_Rf_rests_245 (by decide +kernel) ?_
        first | refine Run.imul_n d_Rf_rests_246 ?_ | refine Run.imul d_Rf_rests_246 ?_
        refine Run.iload d_Rf_rests_247 rfl ?_
        refine Run.iconst (v := nI 2) d_Rf_rests_249 ic_2 ?_
        first | refine Run.irem_n d_Rf_rests_250 (by omega) (by omega) (by omega) ?_ | refine Run.irem d_Rf_rests_250 (by decide +kernel) ?_
        first | refine Run.iadd_n d_Rf_rests_251 ?_ | refine Run.iadd d_Rf_rests_251 ?_
        generalize hw : nI (10 * (k / 2) + k % 2) = w
        have e6 : fir2 F cd2 (k + 1) = w := by rw [← hw]; exact e4 hb c237
        refine Run.goto d_Rf_rests_252 ?_
        refine Run.putf d_Rf_rests_259 fl_Rf_237 (fun _ => rfl) (fun _ => rfl) (by first | rfl | assumption) (by exact Nat.le_of_ble_eq_true rfl) ?_
        refine run_hp (show _ = PX f0 ++ hM (z1, z2, z3, z4, z5, z6, z7, z8, z9, sd, y1, y2, (nI u), w) tx ho pi rh rp pg tr bk kp ik ta tp g2 gr va rw from rfl) ?_
        refine Run.aload_n d_Rf_rests_262 rfl ?_
        refine Run.dup d_Rf_rests_263 rfl ?_
        refine Run.getf d_Rf_rests_264 fl_Rf_234 (by first | rfl | assumption) (by rfl) ?_
        refine Run.iload d_Rf_rests_267 rfl ?_
        first | refine Run.if_eq_b d_Rf_rests_269 (fun c269 => ?_) (fun c269 => ?_) | refine Run.if_eq_n d_Rf_rests_269 (by omega) (fun c269 => ?_) (fun c269 => ?_) | refine Run.if_eq d_Rf_rests_269 (fun c269 => ?_) (fun c269 => ?_)
        · cases c269
        · refine Run.iconst (v := nI 1) d_Rf_rests_272 ic_1 ?_
          refine Run.goto d_Rf_rests_273 ?_
          first | refine Run.iadd_n d_Rf_rests_277 ?_ | refine Run.iadd d_Rf_rests_277 ?_
          generalize hu1 : u + 1 = u1
          rw [hu1] at e1
          refine Run.putf d_Rf_rests_278 fl_Rf_234 (fun _ => rfl) (fun _ => rfl) (by first | rfl | assumption) (by exact Nat.le_of_ble_eq_true rfl) ?_
          refine run_hp (show _ = PX f0 ++ hM (z1, z2, z3, z4, z5, z6, z7, z8, z9, sd, y1, y2, (nI u1), w) tx ho pi rh rp pg tr bk kp ik ta tp g2 gr va rw from rfl) ?_
          first | refine Run.iinc_n d_Rf_rests_281 ic_1 rfl rfl ?_ | refine Run.iinc d_Rf_rests_281 rfl rfl rfl ?_
          show Run _ _ _ _ _ _ [_, _, _, _, _, _, _] _ _ _
          refine Run.goto d_Rf_rests_284 ?_
          exact ih u1 w _ (e1 hb).symm e6.symm
end RRESTS
