/-! ===== rests (the reference) ===== -/
section RRESTS2
variable {X : Nat × (Nat → Int32)} {d : Nat} {c : CA} {p : PG} {f0 : Nat → AC} {nu : NuS} {tx ho pi rh rp pg tr bk kp ik ta tp ga gr va rw : FI} {z1 z2 z3 z4 z5 z6 z7 z8 z9 y1 y2 y3 y4 : Int32} {sd : Int64}
theorem r_rests259 {i j o wq k u : Nat} {v w R0 : Int32} {g2 : FI} {b : Bool} (hk4 : k < 4) (wu : u ≤ 4)
    (ih0 : b = false → Run X (d + 4) 0 0 M_Rf_rests 164 [some (.ref 44), some (.int (nI i)), some (.int (nI j)), some (.int (nI o)), some (.int (nI wq)), some (.int (nI (k + 1))), some (.int (bI b))] [] (PX f0 ++ hM (z1, z2, z3, z4, z5, z6, z7, z8, z9, sd, y1, y2, (nI u), w) tx ho pi rh rp pg tr bk kp ik ta tp g2 gr va rw) (fun r h2 => r = some (.int R0) ∧ ∃ a2 b2 g2, h2 = PX f0 ++ hM (z1, z2, z3, z4, z5, z6, z7, z8, z9, sd, y1, y2, a2, b2) tx ho pi rh rp pg tr bk kp ik ta tp g2 gr va rw))
    (ih1 : b = true → Run X (d + 4) 0 0 M_Rf_rests 164 [some (.ref 44), some (.int (nI i)), some (.int (nI j)), some (.int (nI o)), some (.int (nI wq)), some (.int (nI (k + 1))), some (.int (bI b))] [] (PX f0 ++ hM (z1, z2, z3, z4, z5, z6, z7, z8, z9, sd, y1, y2, (nI (u + 1)), w) tx ho pi rh rp pg tr bk kp ik ta tp g2 gr va rw) (fun r h2 => r = some (.int R0) ∧ ∃ a2 b2 g2, h2 = PX f0 ++ hM (z1, z2, z3, z4, z5, z6, z7, z8, z9, sd, y1, y2, a2, b2) tx ho pi rh rp pg tr bk kp ik ta tp g2 gr va rw)) : Run X (d + 4) 0 0 M_Rf_rests 259 [some (.ref 44), some (.int (nI i)), some (.int (nI j)), some (.int (nI o)), some (.int (nI wq)), some (.int (nI k)), some (.int (bI b))] [.int w, .ref 44] (PX f0 ++ hM (z1, z2, z3, z4, z5, z6, z7, z8, z9, sd, y1, y2, (nI u), v) tx ho pi rh rp pg tr bk kp ik ta tp g2 gr va rw) (fun r h2 => r = some (.int R0) ∧ ∃ a2 b2 g2, h2 = PX f0 ++ hM (z1, z2, z3, z4, z5, z6, z7, z8, z9, sd, y1, y2, a2, b2) tx ho pi rh rp pg tr bk kp ik ta tp g2 gr va rw) := by
  rw [hM_x]
  refine Run.putf d_Rf_rests_259 fl_Rf_237 (fun _ => rfl) (fun _ => rfl) (by first | rfl | assumption) (by exact Nat.le_of_ble_eq_true rfl) ?_
  refine run_hp (show _ = PX f0 ++ hMx z1 z2 z3 z4 z5 z6 z7 z8 z9 sd y1 y2 (nI u) w tx ho pi rh rp pg tr bk kp ik ta tp g2 gr va rw from rfl) ?_
  refine Run.aload_n d_Rf_rests_262 rfl ?_
  refine Run.dup d_Rf_rests_263 rfl ?_
  refine Run.getf d_Rf_rests_264 fl_Rf_234 (by first | rfl | assumption) (by rfl) ?_
  refine Run.iload d_Rf_rests_267 rfl ?_
  first | refine Run.if_eq_b d_Rf_rests_269 (fun c269 => ?_) (fun c269 => ?_) | refine Run.if_eq_n d_Rf_rests_269 (by omega) (fun c269 => ?_) (fun c269 => ?_) | refine Run.if_eq d_Rf_rests_269 (fun c269 => ?_) (fun c269 => ?_)
  · refine Run.iconst (v := nI 0) d_Rf_rests_276 ic_0 ?_
    first | refine Run.iadd_n d_Rf_rests_277 ?_ | refine Run.iadd d_Rf_rests_277 ?_
    refine Run.putf d_Rf_rests_278 fl_Rf_234 (fun _ => rfl) (fun _ => rfl) (by first | rfl | assumption) (by exact Nat.le_of_ble_eq_true rfl) ?_
    first | refine Run.iinc_n d_Rf_rests_281 ic_1 rfl rfl ?_ | refine Run.iinc d_Rf_rests_281 rfl rfl rfl ?_
    show Run _ _ _ _ _ _ [_, _, _, _, _, _, _] _ _ _
    refine Run.goto d_Rf_rests_284 ?_
    first
    | (have q0 := ih0 c269; rw [hM_x] at q0; exact q0)
    | (have q0 := ih1 c269; rw [hM_x] at q0; exact q0)
  · refine Run.iconst (v := nI 1) d_Rf_rests_272 ic_1 ?_
    refine Run.goto d_Rf_rests_273 ?_
    first | refine Run.iadd_n d_Rf_rests_277 ?_ | refine Run.iadd d_Rf_rests_277 ?_
    refine Run.putf d_Rf_rests_278 fl_Rf_234 (fun _ => rfl) (fun _ => rfl) (by first | rfl | assumption) (by exact Nat.le_of_ble_eq_true rfl) ?_
    first | refine Run.iinc_n d_Rf_rests_281 ic_1 rfl rfl ?_ | refine Run.iinc d_Rf_rests_281 rfl rfl rfl ?_
    show Run _ _ _ _ _ _ [_, _, _, _, _, _, _] _ _ _
    refine Run.goto d_Rf_rests_284 ?_
    first
    | (have q0 := ih0 c269; rw [hM_x] at q0; exact q0)
    | (have q0 := ih1 c269; rw [hM_x] at q0; exact q0)
theorem r_rests225 {i j o wq k u : Nat} {v R0 : Int32} {g2 : FI} {v6 : Option Value} {b : Bool} (hk4 : k < 4) (wu : u ≤ 4)
    (ih0 : b = false → ∀ v6, Run X (d + 4) 0 0 M_Rf_rests 164 [some (.ref 44), some (.int (nI i)), some (.int (nI j)), some (.int (nI o)), some (.int (nI wq)), some (.int (nI (k + 1))), v6] [] (PX f0 ++ hM (z1, z2, z3, z4, z5, z6, z7, z8, z9, sd, y1, y2, (nI u), v) tx ho pi rh rp pg tr bk kp ik ta tp g2 gr va rw) (fun r h2 => r = some (.int R0) ∧ ∃ a2 b2 g2, h2 = PX f0 ++ hM (z1, z2, z3, z4, z5, z6, z7, z8, z9, sd, y1, y2, a2, b2) tx ho pi rh rp pg tr bk kp ik ta tp g2 gr va rw))
    (ih1 : b = true → u = 0 → ∀ v6, Run X (d + 4) 0 0 M_Rf_rests 164 [some (.ref 44), some (.int (nI i)), some (.int (nI j)), some (.int (nI o)), some (.int (nI wq)), some (.int (nI (k + 1))), v6] [] (PX f0 ++ hM (z1, z2, z3, z4, z5, z6, z7, z8, z9, sd, y1, y2, (nI (u + 1)), (nI (10 * (k / 2) + k % 2))) tx ho pi rh rp pg tr bk kp ik ta tp g2 gr va rw) (fun r h2 => r = some (.int R0) ∧ ∃ a2 b2 g2, h2 = PX f0 ++ hM (z1, z2, z3, z4, z5, z6, z7, z8, z9, sd, y1, y2, a2, b2) tx ho pi rh rp pg tr bk kp ik ta tp g2 gr va rw))
    (ih2 : b = true → ¬ u = 0 → ∀ v6, Run X (d + 4) 0 0 M_Rf_rests 164 [some (.ref 44), some (.int (nI i)), some (.int (nI j)), some (.int (nI o)), some (.int (nI wq)), some (.int (nI (k + 1))), v6] [] (PX f0 ++ hM (z1, z2, z3, z4, z5, z6, z7, z8, z9, sd, y1, y2, (nI (u + 1)), v) tx ho pi rh rp pg tr bk kp ik ta tp g2 gr va rw) (fun r h2 => r = some (.int R0) ∧ ∃ a2 b2 g2, h2 = PX f0 ++ hM (z1, z2, z3, z4, z5, z6, z7, z8, z9, sd, y1, y2, a2, b2) tx ho pi rh rp pg tr bk kp ik ta tp g2 gr va rw)) : Run X (d + 4) 0 0 M_Rf_rests 225 [some (.ref 44), some (.int (nI i)), some (.int (nI j)), some (.int (nI o)), some (.int (nI wq)), some (.int (nI k)), v6] [.int (bI b)] (PX f0 ++ hM (z1, z2, z3, z4, z5, z6, z7, z8, z9, sd, y1, y2, (nI u), v) tx ho pi rh rp pg tr bk kp ik ta tp g2 gr va rw) (fun r h2 => r = some (.int R0) ∧ ∃ a2 b2 g2, h2 = PX f0 ++ hM (z1, z2, z3, z4, z5, z6, z7, z8, z9, sd, y1, y2, a2, b2) tx ho pi rh rp pg tr bk kp ik ta tp g2 gr va rw) := by
  refine Run.istore d_Rf_rests_225 rfl rfl ?_
  show Run _ _ _ _ _ _ [_, _, _, _, _, _, _] _ _ _
  refine Run.aload_n d_Rf_rests_227 rfl ?_
  refine Run.iload d_Rf_rests_228 rfl ?_
  first | refine Run.if_eq_b d_Rf_rests_230 (fun c230 => ?_) (fun c230 => ?_) | refine Run.if_eq_n d_Rf_rests_230 (by omega) (fun c230 => ?_) (fun c230 => ?_) | refine Run.if_eq d_Rf_rests_230 (fun c230 => ?_) (fun c230 => ?_)
  · refine Run.aload_n d_Rf_rests_255 rfl ?_
    refine Run.getf d_Rf_rests_256 fl_Rf_237 (by first | rfl | assumption) (by rfl) ?_
    first
    | exact r_rests259 hk4 wu (fun _ => ih0 c230 _) (fun q => by rw [c230] at q; cases q)
    | exact r_rests259 hk4 wu (fun q => by rw [c230] at q; cases q) (fun q => ih1 q c237 _)
    | exact r_rests259 hk4 wu (fun q => by rw [c230] at q; cases q) (fun q => ih2 q c237 _)
  · refine Run.aload_n d_Rf_rests_233 rfl ?_
    refine Run.getf d_Rf_rests_234 fl_Rf_234 (by first | rfl | assumption) (by rfl) ?_
    first | refine Run.if_ne_b d_Rf_rests_237 (fun c237 => ?_) (fun c237 => ?_) | refine Run.if_ne_n d_Rf_rests_237 (by omega) (fun c237 => ?_) (fun c237 => ?_) | refine Run.if_ne d_Rf_rests_237 (fun c237 => ?_) (fun c237 => ?_)
    · refine Run.aload_n d_Rf_rests_255 rfl ?_
      refine Run.getf d_Rf_rests_256 fl_Rf_237 (by first | rfl | assumption) (by rfl) ?_
      first
      | exact r_rests259 hk4 wu (fun _ => ih0 c230 _) (fun q => by rw [c230] at q; cases q)
      | exact r_rests259 hk4 wu (fun q => by rw [c230] at q; cases q) (fun q => ih1 q c237 _)
      | exact r_rests259 hk4 wu (fun q => by rw [c230] at q; cases q) (fun q => ih2 q c237 _)
    · refine Run.bipush (v := nI 10) d_Rf_rests_240 bp_10 ?_
      refine Run.iload d_Rf_rests_242 rfl ?_
      refine Run.iconst (v := nI 2) d_Rf_rests_244 ic_2 ?_
      first | refine Run.idiv_n d_Rf_rests_245 (by omega) (by omega) (by omega) ?_ | refine Run.idiv d_Rf_rests_245 (by decide +kernel) ?_
      first | refine Run.imul_n d_Rf_rests_246 ?_ | refine Run.imul d_Rf_rests_246 ?_
      refine Run.iload d_Rf_rests_247 rfl ?_
      refine Run.iconst (v := nI 2) d_Rf_rests_249 ic_2 ?_
      first | refine Run.irem_n d_Rf_rests_250 (by omega) (by omega) (by omega) ?_ | refine Run.irem d_Rf_rests_250 (by decide +kernel) ?_
      first | refine Run.iadd_n d_Rf_rests_251 ?_ | refine Run.iadd d_Rf_rests_251 ?_
      refine Run.goto d_Rf_rests_252 ?_
      first
      | exact r_rests259 hk4 wu (fun _ => ih0 c230 _) (fun q => by rw [c230] at q; cases q)
      | exact r_rests259 hk4 wu (fun q => by rw [c230] at q; cases q) (fun q => ih1 q c237 _)
      | exact r_rests259 hk4 wu (fun q => by rw [c230] at q; cases q) (fun q => ih2 q c237 _)
theorem r_rests225b {i j o wq k u : Nat} {v R0 : Int32} {F : Nat → Bool} {g2 : FI} {v6 : Option Value} {b : Bool} (hk4 : k < 4) (wu : u ≤ 4) (hb : F k = b) (hu : u = cntU F k) (hv : v = fir2 F cd2 k)
    (ih : ∀ (u : Nat) (v : Int32) v6, u = cntU F (k + 1) → v = fir2 F cd2 (k + 1) → Run X (d + 4) 0 0 M_Rf_rests 164 [some (.ref 44), some (.int (nI i)), some (.int (nI j)), some (.int (nI o)), some (.int (nI wq)), some (.int (nI (k + 1))), v6] [] (PX f0 ++ hM (z1, z2, z3, z4, z5, z6, z7, z8, z9, sd, y1, y2, (nI u), v) tx ho pi rh rp pg tr bk kp ik ta tp g2 gr va rw) (fun r h2 => r = some (.int R0) ∧ ∃ a2 b2 g2, h2 = PX f0 ++ hM (z1, z2, z3, z4, z5, z6, z7, z8, z9, sd, y1, y2, a2, b2) tx ho pi rh rp pg tr bk kp ik ta tp g2 gr va rw)) : Run X (d + 4) 0 0 M_Rf_rests 225 [some (.ref 44), some (.int (nI i)), some (.int (nI j)), some (.int (nI o)), some (.int (nI wq)), some (.int (nI k)), v6] [.int (bI b)] (PX f0 ++ hM (z1, z2, z3, z4, z5, z6, z7, z8, z9, sd, y1, y2, (nI u), v) tx ho pi rh rp pg tr bk kp ik ta tp g2 gr va rw) (fun r h2 => r = some (.int R0) ∧ ∃ a2 b2 g2, h2 = PX f0 ++ hM (z1, z2, z3, z4, z5, z6, z7, z8, z9, sd, y1, y2, a2, b2) tx ho pi rh rp pg tr bk kp ik ta tp g2 gr va rw) := by
  have e1 : F k = true → u + 1 = cntU F (k + 1) := fun q => by rw [cntU_s, if_pos q, hu]
  have e2 : F k = false → u = cntU F (k + 1) := fun q => by rw [cntU_s, if_neg (by rw [q]; decide), hu]
  have e3 : F k = false → v = fir2 F cd2 (k + 1) := fun q => by rw [fir2_s, if_neg (fun z => by rw [q] at z; cases z.1), hv]
  have e4 : F k = true → u = 0 → nI (10 * (k / 2) + k % 2) = fir2 F cd2 (k + 1) := fun q1 q2 => by rw [fir2_s, if_pos ⟨q1, by rw [← hu]; exact q2⟩, cd2]
  have e5 : F k = true → ¬ u = 0 → v = fir2 F cd2 (k + 1) := fun q1 q2 => by rw [fir2_s, if_neg (fun z => q2 (by rw [hu]; exact z.2)), hv]
  refine r_rests225 hk4 wu (fun q v6 => ?_) (fun q1 q2 v6 => ?_) (fun q1 q2 v6 => ?_)
  · have q1 := hb.trans q
    exact ih u v v6 (e2 q1) (e3 q1)
  · have q3 := hb.trans q1
    exact ih (u + 1) _ v6 (e1 q3) (e4 q3 q2)
  · have q3 := hb.trans q1
    exact ih (u + 1) _ v6 (e1 q3) (e5 q3 q2)
def gA (c : CA) (p : PG) (i j : Nat) (k : Nat) : Int32 := gain (sh c i j ((angN p i + k / 2 + k % 2) % 8)) (k / 2)
def gB (c : CA) (p : PG) (i o : Nat) (k : Nat) : Int32 := gain (sh c i o ((angN p i + k / 2 + k % 2) % 8)) (k % 2)
theorem rest_F {i j o k : Nat} (hk : k < 4) : okR c p i j o k = (decide (gA c p i j (k ^^^ 2) ≤ gA c p i j k) && decide (gB c p i o (k ^^^ 1) ≤ gB c p i o k)) := by
  rcases (show k = 0 ∨ k = 1 ∨ k = 2 ∨ k = 3 by omega) with rfl | rfl | rfl | rfl <;> simp [okR, staysN, gA, gB, Nat.add_assoc]
theorem r_rests164 {i j o wq : Nat} {R0 : Int32} {F : Nat → Bool} {g2 : FI} {v6 : Option Value} (hF : F = okR c p i j o) (hg : ∀ k, k < 4 → g2 (2 * k) = gA c p i j k ∧ g2 (2 * k + 1) = gB c p i o k) (hwq : wq < 2) (hR0 : wq = 0 → R0 = nI (cntU F 4)) (hR1 : wq = 1 → R0 = fir2 F cd2 4) : Run X (d + 4) 0 0 M_Rf_rests 164 [some (.ref 44), some (.int (nI i)), some (.int (nI j)), some (.int (nI o)), some (.int (nI wq)), some (.int (nI 0)), v6] [] (PX f0 ++ hM (z1, z2, z3, z4, z5, z6, z7, z8, z9, sd, y1, y2, (nI 0), (-9)) tx ho pi rh rp pg tr bk kp ik ta tp g2 gr va rw) (fun r h2 => r = some (.int R0) ∧ ∃ a2 b2 g2, h2 = PX f0 ++ hM (z1, z2, z3, z4, z5, z6, z7, z8, z9, sd, y1, y2, a2, b2) tx ho pi rh rp pg tr bk kp ik ta tp g2 gr va rw) := by
  refine upto 4 (fun k => ∀ (u : Nat) (v : Int32) v6, u = cntU F k → v = fir2 F cd2 k → Run X (d + 4) 0 0 M_Rf_rests 164 [some (.ref 44), some (.int (nI i)), some (.int (nI j)), some (.int (nI o)), some (.int (nI wq)), some (.int (nI k)), v6] [] (PX f0 ++ hM (z1, z2, z3, z4, z5, z6, z7, z8, z9, sd, y1, y2, (nI u), v) tx ho pi rh rp pg tr bk kp ik ta tp g2 gr va rw) (fun r h2 => r = some (.int R0) ∧ ∃ a2 b2 g2, h2 = PX f0 ++ hM (z1, z2, z3, z4, z5, z6, z7, z8, z9, sd, y1, y2, a2, b2) tx ho pi rh rp pg tr bk kp ik ta tp g2 gr va rw)) ?_ 0 (Nat.zero_le _) 0 (-9) v6 rfl rfl
  intro k hk ih u v v6 hu hv
  have wu : u ≤ 4 := by rw [hu]; exact Nat.le_trans (cntU_le F _) (by omega)
  have x2 : k < 4 → k ^^^ 2 < 4 := fun q => Nat.xor_lt_two_pow (n := 2) q (by decide)
  have x1 : k < 4 → k ^^^ 1 < 4 := fun q => Nat.xor_lt_two_pow (n := 2) q (by decide)
  refine Run.iload d_Rf_rests_164 rfl ?_
  refine Run.iconst (v := nI 4) d_Rf_rests_166 ic_4 ?_
  first | refine Run.icmp_ge_n d_Rf_rests_167 (by omega) (by omega) (fun c167 => ?_) (fun c167 => ?_) | refine Run.icmp_ge d_Rf_rests_167 (fun c167 => ?_) (fun c167 => ?_)
  · have e8 : k = 4 := by omega
    subst e8
    refine Run.iload d_Rf_rests_287 rfl ?_
    first | refine Run.if_ne_b d_Rf_rests_289 (fun c289 => ?_) (fun c289 => ?_) | refine Run.if_ne_n d_Rf_rests_289 (by omega) (fun c289 => ?_) (fun c289 => ?_) | refine Run.if_ne d_Rf_rests_289 (fun c289 => ?_) (fun c289 => ?_)
    · refine Run.aload_n d_Rf_rests_299 rfl ?_
      refine Run.getf d_Rf_rests_300 fl_Rf_237 (by first | rfl | assumption) (by rfl) ?_
      refine Run.iret d_Rf_rests_303 rfl rfl ?_
      first
      | (have q1 : wq = 0 := c289
         exact ⟨by rw [hR0 q1, hu], _, _, _, rfl⟩)
      | (have q1 : ¬ wq = 0 := c289
         exact ⟨by rw [hR1 (by omega), hv], _, _, _, rfl⟩)
    · refine Run.aload_n d_Rf_rests_292 rfl ?_
      refine Run.getf d_Rf_rests_293 fl_Rf_234 (by first | rfl | assumption) (by rfl) ?_
      refine Run.goto d_Rf_rests_296 ?_
      refine Run.iret d_Rf_rests_303 rfl rfl ?_
      first
      | (have q1 : wq = 0 := c289
         exact ⟨by rw [hR0 q1, hu], _, _, _, rfl⟩)
      | (have q1 : ¬ wq = 0 := c289
         exact ⟨by rw [hR1 (by omega), hv], _, _, _, rfl⟩)
  · refine Run.aload_n d_Rf_rests_170 rfl ?_
    refine Run.getf d_Rf_rests_171 fl_Rf_47 (by first | rfl | assumption) (by rfl) ?_
    refine Run.iconst (v := nI 2) d_Rf_rests_174 ic_2 ?_
    refine Run.iload d_Rf_rests_175 rfl ?_
    refine Run.iconst (v := nI 2) d_Rf_rests_177 ic_2 ?_
    first | refine Run.ixor_n d_Rf_rests_178 ?_ | refine Run.ixor d_Rf_rests_178 ?_
    first | refine Run.imul_n d_Rf_rests_179 ?_ | refine Run.imul d_Rf_rests_179 ?_
    have y2 := x2 c167
    have y1 := x1 c167
    refine Run.iald_n d_Rf_rests_180 (by first | rfl | assumption) (by omega) (by omega) ?_
    rw [(hg (k ^^^ 2) y2).1]
    refine Run.aload_n d_Rf_rests_181 rfl ?_
    refine Run.getf d_Rf_rests_182 fl_Rf_47 (by first | rfl | assumption) (by rfl) ?_
    refine Run.iconst (v := nI 2) d_Rf_rests_185 ic_2 ?_
    refine Run.iload d_Rf_rests_186 rfl ?_
    first | refine Run.imul_n d_Rf_rests_188 ?_ | refine Run.imul d_Rf_rests_188 ?_
    refine Run.iald_n d_Rf_rests_189 (by first | rfl | assumption) (by omega) (by omega) ?_
    rw [(hg k c167).1]
    first | refine Run.icmp_gt_n d_Rf_rests_190 (by omega) (by omega) (fun c190 => ?_) (fun c190 => ?_) | refine Run.icmp_gt d_Rf_rests_190 (fun c190 => ?_) (fun c190 => ?_)
    · refine Run.iconst (v := nI 0) d_Rf_rests_224 ic_0 ?_
      first
      | (have q0 : F k = false := by rw [hF, rest_F c167, decide_eq_false (Int32.not_le.mpr c190), Bool.false_and]
         exact r_rests225b (b := false) c167 wu q0 hu hv (ih c167))
      | (have q0 : F k = false := by rw [hF, rest_F c167, decide_eq_false (Int32.not_le.mpr c217), Bool.and_false]
         exact r_rests225b (b := false) c167 wu q0 hu hv (ih c167))
      | (have q0 : F k = true := by rw [hF, rest_F c167, decide_eq_true (Int32.not_lt.mp c190), decide_eq_true (Int32.not_lt.mp c217)]; rfl
         exact r_rests225b (b := true) c167 wu q0 hu hv (ih c167))
    · refine Run.aload_n d_Rf_rests_193 rfl ?_
      refine Run.getf d_Rf_rests_194 fl_Rf_47 (by first | rfl | assumption) (by rfl) ?_
      refine Run.iconst (v := nI 2) d_Rf_rests_197 ic_2 ?_
      refine Run.iload d_Rf_rests_198 rfl ?_
      refine Run.iconst (v := nI 1) d_Rf_rests_200 ic_1 ?_
      first | refine Run.ixor_n d_Rf_rests_201 ?_ | refine Run.ixor d_Rf_rests_201 ?_
      first | refine Run.imul_n d_Rf_rests_202 ?_ | refine Run.imul d_Rf_rests_202 ?_
      refine Run.iconst (v := nI 1) d_Rf_rests_203 ic_1 ?_
      first | refine Run.iadd_n d_Rf_rests_204 ?_ | refine Run.iadd d_Rf_rests_204 ?_
      refine Run.iald_n d_Rf_rests_205 (by first | rfl | assumption) (by omega) (by omega) ?_
      rw [(hg (k ^^^ 1) y1).2]
      refine Run.aload_n d_Rf_rests_206 rfl ?_
      refine Run.getf d_Rf_rests_207 fl_Rf_47 (by first | rfl | assumption) (by rfl) ?_
      refine Run.iconst (v := nI 2) d_Rf_rests_210 ic_2 ?_
      refine Run.iload d_Rf_rests_211 rfl ?_
      first | refine Run.imul_n d_Rf_rests_213 ?_ | refine Run.imul d_Rf_rests_213 ?_
      refine Run.iconst (v := nI 1) d_Rf_rests_214 ic_1 ?_
      first | refine Run.iadd_n d_Rf_rests_215 ?_ | refine Run.iadd d_Rf_rests_215 ?_
      refine Run.iald_n d_Rf_rests_216 (by first | rfl | assumption) (by omega) (by omega) ?_
      rw [(hg k c167).2]
      first | refine Run.icmp_gt_n d_Rf_rests_217 (by omega) (by omega) (fun c217 => ?_) (fun c217 => ?_) | refine Run.icmp_gt d_Rf_rests_217 (fun c217 => ?_) (fun c217 => ?_)
      · refine Run.iconst (v := nI 0) d_Rf_rests_224 ic_0 ?_
        first
        | (have q0 : F k = false := by rw [hF, rest_F c167, decide_eq_false (Int32.not_le.mpr c190), Bool.false_and]
           exact r_rests225b (b := false) c167 wu q0 hu hv (ih c167))
        | (have q0 : F k = false := by rw [hF, rest_F c167, decide_eq_false (Int32.not_le.mpr c217), Bool.and_false]
           exact r_rests225b (b := false) c167 wu q0 hu hv (ih c167))
        | (have q0 : F k = true := by rw [hF, rest_F c167, decide_eq_true (Int32.not_lt.mp c190), decide_eq_true (Int32.not_lt.mp c217)]; rfl
           exact r_rests225b (b := true) c167 wu q0 hu hv (ih c167))
      · refine Run.iconst (v := nI 1) d_Rf_rests_220 ic_1 ?_
        refine Run.goto d_Rf_rests_221 ?_
        first
        | (have q0 : F k = false := by rw [hF, rest_F c167, decide_eq_false (Int32.not_le.mpr c190), Bool.false_and]
           exact r_rests225b (b := false) c167 wu q0 hu hv (ih c167))
        | (have q0 : F k = false := by rw [hF, rest_F c167, decide_eq_false (Int32.not_le.mpr c217), Bool.and_false]
           exact r_rests225b (b := false) c167 wu q0 hu hv (ih c167))
        | (have q0 : F k = true := by rw [hF, rest_F c167, decide_eq_true (Int32.not_lt.mp c190), decide_eq_true (Int32.not_lt.mp c217)]; rfl
           exact r_rests225b (b := true) c167 wu q0 hu hv (ih c167))
theorem r_rests53 {i j o wq : Nat} {R0 : Int32} {F : Nat → Bool} {v6 : Option Value} (hF : F = okR c p i j o) (hc : coOK c) (hp : pgOK c p) (hr : RfR c z3 z4 ho pi) (hg : PgV c p pg) (hi : i < npC c) (hj : j < nhC c) (hoo : o < nhC c) (hwq : wq < 2) (hR0 : wq = 0 → R0 = nI (cntU F 4)) (hR1 : wq = 1 → R0 = fir2 F cd2 4) : Run X (d + 4) 0 0 M_Rf_rests 53 [some (.ref 44), some (.int (nI i)), some (.int (nI j)), some (.int (nI o)), some (.int (nI wq)), some (.int (nI 0)), v6] [] (PX f0 ++ hM (z1, z2, z3, z4, z5, z6, z7, z8, z9, sd, y1, y2, y3, y4) tx ho pi rh rp pg tr bk kp ik ta tp ga gr va rw) (fun r h2 => r = some (.int R0) ∧ ∃ a2 b2 g2, h2 = PX f0 ++ hM (z1, z2, z3, z4, z5, z6, z7, z8, z9, sd, y1, y2, a2, b2) tx ho pi rh rp pg tr bk kp ik ta tp g2 gr va rw) := by
  refine upto 4 (fun k => ∀ (g2 : FI) v6, (∀ q, q < k → g2 (2 * q) = gA c p i j q ∧ g2 (2 * q + 1) = gB c p i o q) → Run X (d + 4) 0 0 M_Rf_rests 53 [some (.ref 44), some (.int (nI i)), some (.int (nI j)), some (.int (nI o)), some (.int (nI wq)), some (.int (nI k)), v6] [] (PX f0 ++ hM (z1, z2, z3, z4, z5, z6, z7, z8, z9, sd, y1, y2, y3, y4) tx ho pi rh rp pg tr bk kp ik ta tp g2 gr va rw) (fun r h2 => r = some (.int R0) ∧ ∃ a2 b2 g2, h2 = PX f0 ++ hM (z1, z2, z3, z4, z5, z6, z7, z8, z9, sd, y1, y2, a2, b2) tx ho pi rh rp pg tr bk kp ik ta tp g2 gr va rw)) ?_ 0 (Nat.zero_le _) ga v6 (fun q hq => by omega)
  intro k hk ih g2 v6 he
  have wa : angN p i < 8 := Nat.mod_lt _ (by omega)
  refine Run.iload d_Rf_rests_53 rfl ?_
  refine Run.iconst (v := nI 4) d_Rf_rests_55 ic_4 ?_
  first | refine Run.icmp_ge_n d_Rf_rests_56 (by omega) (by omega) (fun c56 => ?_) (fun c56 => ?_) | refine Run.icmp_ge d_Rf_rests_56 (fun c56 => ?_) (fun c56 => ?_)
  · have e8 : k = 4 := by omega
    subst e8
    refine Run.aload_n d_Rf_rests_150 rfl ?_
    refine Run.iconst (v := nI 0) d_Rf_rests_151 ic_0 ?_
    refine Run.putf d_Rf_rests_152 fl_Rf_234 (fun _ => rfl) (fun _ => rfl) (by first | rfl | assumption) (by exact Nat.le_of_ble_eq_true rfl) ?_
    refine Run.aload_n d_Rf_rests_155 rfl ?_
    refine Run.bipush (v := -9) d_Rf_rests_156 bp_m9 ?_
    refine Run.putf d_Rf_rests_158 fl_Rf_237 (fun _ => rfl) (fun _ => rfl) (by first | rfl | assumption) (by exact Nat.le_of_ble_eq_true rfl) ?_
    refine Run.iconst (v := nI 0) d_Rf_rests_161 ic_0 ?_
    refine Run.istore d_Rf_rests_162 rfl rfl ?_
    show Run _ _ _ _ _ _ [_, _, _, _, _, _, _] _ _ _
    exact r_rests164 hF he hwq hR0 hR1
  · refine Run.aload_n d_Rf_rests_59 rfl ?_
    refine Run.getf d_Rf_rests_60 fl_Rf_25 (by first | rfl | assumption) (by rfl) ?_
    refine Run.iload_n d_Rf_rests_63 rfl ?_
    refine Run.S2r d_Rf_rests_64 lk_Rf_119 cm_Rf_angleOf st_Rf_angleOf (Nat.le_of_ble_eq_true rfl) (Nat.le_of_ble_eq_true rfl) (c_Rf_angleOf hc hp hg.a49 hi) ?_
    refine Run.iload d_Rf_rests_67 rfl ?_
    refine Run.iconst (v := nI 2) d_Rf_rests_69 ic_2 ?_
    first | refine Run.idiv_n d_Rf_rests_70 (by omega) (by omega) (by omega) ?_ | refine Run.idiv d_Rf_rests_70 (by decide +kernel) ?_
    first | refine Run.iadd_n d_Rf_rests_71 ?_ | refine Run.iadd d_Rf_rests_71 ?_
    refine Run.iload d_Rf_rests_72 rfl ?_
    refine Run.iconst (v := nI 2) d_Rf_rests_74 ic_2 ?_
    first | refine Run.irem_n d_Rf_rests_75 (by omega) (by omega) (by omega) ?_ | refine Run.irem d_Rf_rests_75 (by decide +kernel) ?_
    first | refine Run.iadd_n d_Rf_rests_76 ?_ | refine Run.iadd d_Rf_rests_76 ?_
    refine Run.bipush (v := nI 8) d_Rf_rests_77 bp_8 ?_
    first | refine Run.irem_n d_Rf_rests_79 (by omega) (by omega) (by omega) ?_ | refine Run.irem d_Rf_rests_79 (by decide +kernel) ?_
    refine Run.istore d_Rf_rests_80 rfl rfl ?_
    show Run _ _ _ _ _ _ [_, _, _, _, _, _, _] _ _ _
    refine Run.aload_n d_Rf_rests_82 rfl ?_
    refine Run.getf d_Rf_rests_83 fl_Rf_47 (by first | rfl | assumption) (by rfl) ?_
    refine Run.iconst (v := nI 2) d_Rf_rests_86 ic_2 ?_
    refine Run.iload d_Rf_rests_87 rfl ?_
    first | refine Run.imul_n d_Rf_rests_89 ?_ | refine Run.imul d_Rf_rests_89 ?_
    refine Run.aload_n d_Rf_rests_90 rfl ?_
    refine Run.iload_n d_Rf_rests_91 rfl ?_
    refine Run.iload_n d_Rf_rests_92 rfl ?_
    refine Run.iload d_Rf_rests_93 rfl ?_
    refine Run.V3r d_Rf_rests_95 lk_Rf_123 cm_Rf_showsTo iv_Rf_showsTo rfl (by first | rfl | assumption) (Nat.le_of_ble_eq_true rfl) (Nat.le_of_ble_eq_true rfl) (c_Rf_showsTo hc (RfR.at (nu := (z1, z2, z3, z4, z5, z6, z7, z8, z9, sd, y1, y2, y3, y4)) hr) hi hj (Nat.mod_lt _ (by omega))) ?_
    first | refine Run.if_eq_b d_Rf_rests_98 (fun c98 => ?_) (fun c98 => ?_) | refine Run.if_eq_n d_Rf_rests_98 (by omega) (fun c98 => ?_) (fun c98 => ?_) | refine Run.if_eq d_Rf_rests_98 (fun c98 => ?_) (fun c98 => ?_)
    · refine Run.iconst (v := nI 0) d_Rf_rests_105 ic_0 ?_
      refine Run.iload d_Rf_rests_106 rfl ?_
      refine Run.iconst (v := nI 2) d_Rf_rests_108 ic_2 ?_
      first | refine Run.idiv_n d_Rf_rests_109 (by omega) (by omega) (by omega) ?_ | refine Run.idiv d_Rf_rests_109 (by decide +kernel) ?_
      refine Run.isub d_Rf_rests_110 ?_
      first
        | rw [show nI 2 - nI (k / 2) = gA c p i j k by simp [gA, gain, c98]]
        | rw [show nI 0 - nI (k / 2) = gA c p i j k by simp [gA, gain, c98]]
      refine Run.iast_n d_Rf_rests_111 (by first | rfl | assumption) (by omega) (by omega) ?_
      refine run_hp (show _ = PX f0 ++ hM (z1, z2, z3, z4, z5, z6, z7, z8, z9, sd, y1, y2, y3, y4) tx ho pi rh rp pg tr bk kp ik ta tp (upd g2 (2 * k) (gA c p i j k)) gr va rw from rfl) ?_
      refine Run.aload_n d_Rf_rests_112 rfl ?_
      refine Run.getf d_Rf_rests_113 fl_Rf_47 (by first | rfl | assumption) (by rfl) ?_
      refine Run.iconst (v := nI 2) d_Rf_rests_116 ic_2 ?_
      refine Run.iload d_Rf_rests_117 rfl ?_
      first | refine Run.imul_n d_Rf_rests_119 ?_ | refine Run.imul d_Rf_rests_119 ?_
      refine Run.iconst (v := nI 1) d_Rf_rests_120 ic_1 ?_
      first | refine Run.iadd_n d_Rf_rests_121 ?_ | refine Run.iadd d_Rf_rests_121 ?_
      refine Run.aload_n d_Rf_rests_122 rfl ?_
      refine Run.iload_n d_Rf_rests_123 rfl ?_
      refine Run.iload_n d_Rf_rests_124 rfl ?_
      refine Run.iload d_Rf_rests_125 rfl ?_
      refine Run.V3r d_Rf_rests_127 lk_Rf_123 cm_Rf_showsTo iv_Rf_showsTo rfl (by first | rfl | assumption) (Nat.le_of_ble_eq_true rfl) (Nat.le_of_ble_eq_true rfl) (c_Rf_showsTo hc (RfR.at (nu := (z1, z2, z3, z4, z5, z6, z7, z8, z9, sd, y1, y2, y3, y4)) hr) hi hoo (Nat.mod_lt _ (by omega))) ?_
      first | refine Run.if_eq_b d_Rf_rests_130 (fun c130 => ?_) (fun c130 => ?_) | refine Run.if_eq_n d_Rf_rests_130 (by omega) (fun c130 => ?_) (fun c130 => ?_) | refine Run.if_eq d_Rf_rests_130 (fun c130 => ?_) (fun c130 => ?_)
      · refine Run.iconst (v := nI 0) d_Rf_rests_137 ic_0 ?_
        refine Run.iload d_Rf_rests_138 rfl ?_
        refine Run.iconst (v := nI 2) d_Rf_rests_140 ic_2 ?_
        first | refine Run.irem_n d_Rf_rests_141 (by omega) (by omega) (by omega) ?_ | refine Run.irem d_Rf_rests_141 (by decide +kernel) ?_
        refine Run.isub d_Rf_rests_142 ?_
        first
          | rw [show nI 2 - nI (k % 2) = gB c p i o k by simp [gB, gain, c130]]
          | rw [show nI 0 - nI (k % 2) = gB c p i o k by simp [gB, gain, c130]]
        refine Run.iast_n d_Rf_rests_143 (by first | rfl | assumption) (by omega) (by omega) ?_
        first | refine Run.iinc_n d_Rf_rests_144 ic_1 rfl rfl ?_ | refine Run.iinc d_Rf_rests_144 rfl rfl rfl ?_
        show Run _ _ _ _ _ _ [_, _, _, _, _, _, _] _ _ _
        refine Run.goto d_Rf_rests_147 ?_
        refine ih c56 (upd (upd g2 (2 * k) (gA c p i j k)) (2 * k + 1) (gB c p i o k)) _ (fun q hq => ?_)
        by_cases hqk : q = k
        · subst hqk
          exact ⟨by rw [pk_un (by omega), pk_us], pk_us⟩
        · rw [pk_un (by omega), pk_un (by omega), pk_un (by omega), pk_un (by omega)]
          exact he q (by omega)
      · refine Run.iconst (v := nI 2) d_Rf_rests_133 ic_2 ?_
        refine Run.goto d_Rf_rests_134 ?_
        refine Run.iload d_Rf_rests_138 rfl ?_
        refine Run.iconst (v := nI 2) d_Rf_rests_140 ic_2 ?_
        first | refine Run.irem_n d_Rf_rests_141 (by omega) (by omega) (by omega) ?_ | refine Run.irem d_Rf_rests_141 (by decide +kernel) ?_
        refine Run.isub d_Rf_rests_142 ?_
        first
          | rw [show nI 2 - nI (k % 2) = gB c p i o k by simp [gB, gain, c130]]
          | rw [show nI 0 - nI (k % 2) = gB c p i o k by simp [gB, gain, c130]]
        refine Run.iast_n d_Rf_rests_143 (by first | rfl | assumption) (by omega) (by omega) ?_
        first | refine Run.iinc_n d_Rf_rests_144 ic_1 rfl rfl ?_ | refine Run.iinc d_Rf_rests_144 rfl rfl rfl ?_
        show Run _ _ _ _ _ _ [_, _, _, _, _, _, _] _ _ _
        refine Run.goto d_Rf_rests_147 ?_
        refine ih c56 (upd (upd g2 (2 * k) (gA c p i j k)) (2 * k + 1) (gB c p i o k)) _ (fun q hq => ?_)
        by_cases hqk : q = k
        · subst hqk
          exact ⟨by rw [pk_un (by omega), pk_us], pk_us⟩
        · rw [pk_un (by omega), pk_un (by omega), pk_un (by omega), pk_un (by omega)]
          exact he q (by omega)
    · refine Run.iconst (v := nI 2) d_Rf_rests_101 ic_2 ?_
      refine Run.goto d_Rf_rests_102 ?_
      refine Run.iload d_Rf_rests_106 rfl ?_
      refine Run.iconst (v := nI 2) d_Rf_rests_108 ic_2 ?_
      first | refine Run.idiv_n d_Rf_rests_109 (by omega) (by omega) (by omega) ?_ | refine Run.idiv d_Rf_rests_109 (by decide +kernel) ?_
      refine Run.isub d_Rf_rests_110 ?_
      first
        | rw [show nI 2 - nI (k / 2) = gA c p i j k by simp [gA, gain, c98]]
        | rw [show nI 0 - nI (k / 2) = gA c p i j k by simp [gA, gain, c98]]
      refine Run.iast_n d_Rf_rests_111 (by first | rfl | assumption) (by omega) (by omega) ?_
      refine run_hp (show _ = PX f0 ++ hM (z1, z2, z3, z4, z5, z6, z7, z8, z9, sd, y1, y2, y3, y4) tx ho pi rh rp pg tr bk kp ik ta tp (upd g2 (2 * k) (gA c p i j k)) gr va rw from rfl) ?_
      refine Run.aload_n d_Rf_rests_112 rfl ?_
      refine Run.getf d_Rf_rests_113 fl_Rf_47 (by first | rfl | assumption) (by rfl) ?_
      refine Run.iconst (v := nI 2) d_Rf_rests_116 ic_2 ?_
      refine Run.iload d_Rf_rests_117 rfl ?_
      first | refine Run.imul_n d_Rf_rests_119 ?_ | refine Run.imul d_Rf_rests_119 ?_
      refine Run.iconst (v := nI 1) d_Rf_rests_120 ic_1 ?_
      first | refine Run.iadd_n d_Rf_rests_121 ?_ | refine Run.iadd d_Rf_rests_121 ?_
      refine Run.aload_n d_Rf_rests_122 rfl ?_
      refine Run.iload_n d_Rf_rests_123 rfl ?_
      refine Run.iload_n d_Rf_rests_124 rfl ?_
      refine Run.iload d_Rf_rests_125 rfl ?_
      refine Run.V3r d_Rf_rests_127 lk_Rf_123 cm_Rf_showsTo iv_Rf_showsTo rfl (by first | rfl | assumption) (Nat.le_of_ble_eq_true rfl) (Nat.le_of_ble_eq_true rfl) (c_Rf_showsTo hc (RfR.at (nu := (z1, z2, z3, z4, z5, z6, z7, z8, z9, sd, y1, y2, y3, y4)) hr) hi hoo (Nat.mod_lt _ (by omega))) ?_
      first | refine Run.if_eq_b d_Rf_rests_130 (fun c130 => ?_) (fun c130 => ?_) | refine Run.if_eq_n d_Rf_rests_130 (by omega) (fun c130 => ?_) (fun c130 => ?_) | refine Run.if_eq d_Rf_rests_130 (fun c130 => ?_) (fun c130 => ?_)
      · refine Run.iconst (v := nI 0) d_Rf_rests_137 ic_0 ?_
        refine Run.iload d_Rf_rests_138 rfl ?_
        refine Run.iconst (v := nI 2) d_Rf_rests_140 ic_2 ?_
        first | refine Run.irem_n d_Rf_rests_141 (by omega) (by omega) (by omega) ?_ | refine Run.irem d_Rf_rests_141 (by decide +kernel) ?_
        refine Run.isub d_Rf_rests_142 ?_
        first
          | rw [show nI 2 - nI (k % 2) = gB c p i o k by simp [gB, gain, c130]]
          | rw [show nI 0 - nI (k % 2) = gB c p i o k by simp [gB, gain, c130]]
        refine Run.iast_n d_Rf_rests_143 (by first | rfl | assumption) (by omega) (by omega) ?_
        first | refine Run.iinc_n d_Rf_rests_144 ic_1 rfl rfl ?_ | refine Run.iinc d_Rf_rests_144 rfl rfl rfl ?_
        show Run _ _ _ _ _ _ [_, _, _, _, _, _, _] _ _ _
        refine Run.goto d_Rf_rests_147 ?_
        refine ih c56 (upd (upd g2 (2 * k) (gA c p i j k)) (2 * k + 1) (gB c p i o k)) _ (fun q hq => ?_)
        by_cases hqk : q = k
        · subst hqk
          exact ⟨by rw [pk_un (by omega), pk_us], pk_us⟩
        · rw [pk_un (by omega), pk_un (by omega), pk_un (by omega), pk_un (by omega)]
          exact he q (by omega)
      · refine Run.iconst (v := nI 2) d_Rf_rests_133 ic_2 ?_
        refine Run.goto d_Rf_rests_134 ?_
        refine Run.iload d_Rf_rests_138 rfl ?_
        refine Run.iconst (v := nI 2) d_Rf_rests_140 ic_2 ?_
        first | refine Run.irem_n d_Rf_rests_141 (by omega) (by omega) (by omega) ?_ | refine Run.irem d_Rf_rests_141 (by decide +kernel) ?_
        refine Run.isub d_Rf_rests_142 ?_
        first
          | rw [show nI 2 - nI (k % 2) = gB c p i o k by simp [gB, gain, c130]]
          | rw [show nI 0 - nI (k % 2) = gB c p i o k by simp [gB, gain, c130]]
        refine Run.iast_n d_Rf_rests_143 (by first | rfl | assumption) (by omega) (by omega) ?_
        first | refine Run.iinc_n d_Rf_rests_144 ic_1 rfl rfl ?_ | refine Run.iinc d_Rf_rests_144 rfl rfl rfl ?_
        show Run _ _ _ _ _ _ [_, _, _, _, _, _, _] _ _ _
        refine Run.goto d_Rf_rests_147 ?_
        refine ih c56 (upd (upd g2 (2 * k) (gA c p i j k)) (2 * k + 1) (gB c p i o k)) _ (fun q hq => ?_)
        by_cases hqk : q = k
        · subst hqk
          exact ⟨by rw [pk_un (by omega), pk_us], pk_us⟩
        · rw [pk_un (by omega), pk_un (by omega), pk_un (by omega), pk_un (by omega)]
          exact he q (by omega)
theorem q_Rf_rests {x y z w : Int32} (hc : coOK c) (hp : pgOK c p) (hr : RfR c z3 z4 ho pi) (hg : PgV c p pg) : Call X (d + 4) 0 0 M_Rf_rests [.ref 44, .int x, .int y, .int z, .int w] (PX f0 ++ hM (z1, z2, z3, z4, z5, z6, z7, z8, z9, sd, y1, y2, y3, y4) tx ho pi rh rp pg tr bk kp ik ta tp ga gr va rw) (fun r h2 => r = some (.int (restsR c p x y z w)) ∧ ∃ a2 b2 g2, h2 = PX f0 ++ hM (z1, z2, z3, z4, z5, z6, z7, z8, z9, sd, y1, y2, a2, b2) tx ho pi rh rp pg tr bk kp ik ta tp g2 gr va rw) := by
  show Run X (d + 4) 0 0 M_Rf_rests 0 [some (.ref 44), some (.int x), some (.int y), some (.int z), some (.int w), none, none] [] _ _
  have b1 := hc.1
  have b2 := hc.2.1
  have hrf := RfR.at (nu := (z1, z2, z3, z4, z5, z6, z7, z8, z9, sd, y1, y2, y3, y4)) (f0 := f0) (tx := tx) (rh := rh) (rp := rp) (pg := pg) (tr := tr) (bk := bk) (kp := kp) (ik := ik) (ta := ta) (tp := tp) (ga := ga) (gr := gr) (va := va) (rw := rw) hr
  refine Run.aload_n d_Rf_rests_0 rfl ?_
  refine Run.iconst (v := nI 0) d_Rf_rests_1 ic_0 ?_
  refine Run.putf d_Rf_rests_2 fl_Rf_59 (fun _ => rfl) (fun _ => rfl) (by first | rfl | assumption) (by exact Nat.le_of_ble_eq_true rfl) ?_
  refine run_hp (show _ = PX f0 ++ hM (z1, z2, z3, z4, z5, z6, z7, z8, z9, sd, y1, y2, y3, y4) tx ho pi rh rp pg tr bk kp ik ta tp ga gr va rw from rfl) ?_
  refine Run.aload_n d_Rf_rests_5 rfl ?_
  refine Run.iload_n d_Rf_rests_6 rfl ?_
  refine Run.V1r d_Rf_rests_7 lk_Rf_156 cm_Rf_noPiece iv_Rf_noPiece rfl (by first | rfl | assumption) (Nat.le_of_ble_eq_true rfl) (Nat.le_of_ble_eq_true rfl) (c_Rf_noPiece hc hrf) ?_
  first | refine Run.if_ne_b d_Rf_rests_10 (fun c10 => ?_) (fun c10 => ?_) | refine Run.if_ne_n d_Rf_rests_10 (by omega) (fun c10 => ?_) (fun c10 => ?_) | refine Run.if_ne d_Rf_rests_10 (fun c10 => ?_) (fun c10 => ?_)
  · rw [Bool.not_eq_true'] at c10
    refine Run.iconst (v := -1) d_Rf_rests_29 ic_m1 ?_
    refine Run.iret d_Rf_rests_30 rfl rfl ?_
    first
    | exact ⟨by rw [restsR, c10, Bool.false_and]; rfl, y3, y4, ga, rfl⟩
    | exact ⟨by rw [restsR, c18, Bool.false_and, Bool.and_false]; rfl, y3, y4, ga, rfl⟩
    | exact ⟨by rw [restsR, c26, Bool.and_false, Bool.and_false]; rfl, y3, y4, ga, rfl⟩
  · rw [Bool.not_eq_false'] at c10
    refine Run.aload_n d_Rf_rests_13 rfl ?_
    refine Run.iload_n d_Rf_rests_14 rfl ?_
    refine Run.V1r d_Rf_rests_15 lk_Rf_149 cm_Rf_noHolder iv_Rf_noHolder rfl (by first | rfl | assumption) (Nat.le_of_ble_eq_true rfl) (Nat.le_of_ble_eq_true rfl) (c_Rf_noHolder hc hrf) ?_
    first | refine Run.if_ne_b d_Rf_rests_18 (fun c18 => ?_) (fun c18 => ?_) | refine Run.if_ne_n d_Rf_rests_18 (by omega) (fun c18 => ?_) (fun c18 => ?_) | refine Run.if_ne d_Rf_rests_18 (fun c18 => ?_) (fun c18 => ?_)
    · rw [Bool.not_eq_true'] at c18
      refine Run.iconst (v := -1) d_Rf_rests_29 ic_m1 ?_
      refine Run.iret d_Rf_rests_30 rfl rfl ?_
      first
      | exact ⟨by rw [restsR, c10, Bool.false_and]; rfl, y3, y4, ga, rfl⟩
      | exact ⟨by rw [restsR, c18, Bool.false_and, Bool.and_false]; rfl, y3, y4, ga, rfl⟩
      | exact ⟨by rw [restsR, c26, Bool.and_false, Bool.and_false]; rfl, y3, y4, ga, rfl⟩
    · rw [Bool.not_eq_false'] at c18
      refine Run.aload_n d_Rf_rests_21 rfl ?_
      refine Run.iload_n d_Rf_rests_22 rfl ?_
      refine Run.V1r d_Rf_rests_23 lk_Rf_149 cm_Rf_noHolder iv_Rf_noHolder rfl (by first | rfl | assumption) (Nat.le_of_ble_eq_true rfl) (Nat.le_of_ble_eq_true rfl) (c_Rf_noHolder hc hrf) ?_
      first | refine Run.if_eq_b d_Rf_rests_26 (fun c26 => ?_) (fun c26 => ?_) | refine Run.if_eq_n d_Rf_rests_26 (by omega) (fun c26 => ?_) (fun c26 => ?_) | refine Run.if_eq d_Rf_rests_26 (fun c26 => ?_) (fun c26 => ?_)
      · rw [Bool.not_eq_false'] at c26
        refine Run.iload_n d_Rf_rests_31 rfl ?_
        refine Run.iload_n d_Rf_rests_32 rfl ?_
        first | refine Run.icmp_eq_n d_Rf_rests_33 (by omega) (by omega) (fun c33 => ?_) (fun c33 => ?_) | refine Run.icmp_eq d_Rf_rests_33 (fun c33 => ?_) (fun c33 => ?_)
        · refine Run.bipush (v := -2) d_Rf_rests_47 bp_m2 ?_
          refine Run.iret d_Rf_rests_49 rfl rfl ?_
          first
          | (refine ⟨?_, y3, y4, ga, rfl⟩; rw [restsR, c10, c18, c26, if_pos (by decide), if_pos c33]; done)
          | (refine ⟨?_, y3, y4, ga, rfl⟩; rw [restsR, c10, c18, c26, if_pos (by decide), if_neg c33, swN, c44]; rfl)
        · refine Run.iload d_Rf_rests_36 rfl ?_
          refine Run.i2l d_Rf_rests_38 ?_
          refine Run.lconst (v := 0) d_Rf_rests_39 rfl ?_
          refine Run.lconst (v := 1) d_Rf_rests_40 rfl ?_
          refine Run.S3r d_Rf_rests_41 lk_Rf_66 cm_Rf_in st_Rf_in (Nat.le_of_ble_eq_true rfl) (Nat.le_of_ble_eq_true rfl) (c_Rf_in) ?_
          rw [in_B (n := 2) (by omega) (by decide +kernel)]
          first | refine Run.if_ne_b d_Rf_rests_44 (fun c44 => ?_) (fun c44 => ?_) | refine Run.if_ne_n d_Rf_rests_44 (by omega) (fun c44 => ?_) (fun c44 => ?_) | refine Run.if_ne d_Rf_rests_44 (fun c44 => ?_) (fun c44 => ?_)
          · obtain ⟨wq, hwq, rfl⟩ := inB_t (n := 2) (by omega) c44
            obtain ⟨i, hi, rfl⟩ := inB_t (by omega) c10
            obtain ⟨j, hj, rfl⟩ := inB_t (by omega) c18
            obtain ⟨o, ho2, rfl⟩ := inB_t (by omega) c26
            have ti : tn (nI i) = i := tn_nI (by omega)
            have tj : tn (nI j) = j := tn_nI (by omega)
            have to : tn (nI o) = o := tn_nI (by omega)
            refine Run.iconst (v := nI 0) d_Rf_rests_50 ic_0 ?_
            refine Run.istore d_Rf_rests_51 rfl rfl ?_
            show Run _ _ _ _ _ _ [_, _, _, _, _, _, _] _ _ _
            refine r_rests53 (F := okR c p i j o) rfl hc hp hr hg hi hj ho2 hwq (fun e => ?_) (fun e => ?_)
            · subst e
              rw [restsR, c10, c18, c26, if_pos (by decide), if_neg c33, swN_in (by omega) (by omega), ti, tj, to]
              generalize nI (cntU (okR c p i j o) 4) = g1
              rfl
            · subst e
              rw [restsR, c10, c18, c26, if_pos (by decide), if_neg c33, swN_in (by omega) (by omega), ti, tj, to]
              generalize fir2 (okR c p i j o) cd2 4 = g2
              rfl
          · refine Run.bipush (v := -2) d_Rf_rests_47 bp_m2 ?_
            refine Run.iret d_Rf_rests_49 rfl rfl ?_
            first
            | (refine ⟨?_, y3, y4, ga, rfl⟩; rw [restsR, c10, c18, c26, if_pos (by decide), if_pos c33]; done)
            | (refine ⟨?_, y3, y4, ga, rfl⟩; rw [restsR, c10, c18, c26, if_pos (by decide), if_neg c33, swN, c44]; rfl)
      · rw [Bool.not_eq_true'] at c26
        refine Run.iconst (v := -1) d_Rf_rests_29 ic_m1 ?_
        refine Run.iret d_Rf_rests_30 rfl rfl ?_
        first
        | exact ⟨by rw [restsR, c10, Bool.false_and]; rfl, y3, y4, ga, rfl⟩
        | exact ⟨by rw [restsR, c18, Bool.false_and, Bool.and_false]; rfl, y3, y4, ga, rfl⟩
        | exact ⟨by rw [restsR, c26, Bool.and_false, Bool.and_false]; rfl, y3, y4, ga, rfl⟩
end RRESTS2
