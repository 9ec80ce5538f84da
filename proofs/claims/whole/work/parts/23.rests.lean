/-! ===== rests; when (the reference) ===== -/
def fir2 (F : Nat → Bool) (cd : Nat → Nat) (m : Nat) : Int32 := oI ((fstN F m).map cd)
theorem fir2_s (F : Nat → Bool) (cd : Nat → Nat) (m : Nat) : fir2 F cd (m + 1) = if F m = true ∧ cntU F m = 0 then nI (cd m) else fir2 F cd m := by
  unfold fir2
  simp only [fstN]
  cases hf : fstN F m with
  | none =>
    have h0 := cnt0.mpr hf
    by_cases h : F m = true
    · simp [h, h0, oI]
    · simp [h]
  | some a =>
    have h0 : ¬ cntU F m = 0 := fun q => by have := cnt0.mp q; rw [hf] at this; cases this
    simp [h0]
def okR (c : CA) (p : PG) (i h o : Nat) : Nat → Bool := fun m => staysN c p i h (m / 2) (m % 2) && staysN c p i o (m % 2) (m / 2)
def cd2 (m : Nat) : Nat := 10 * (m / 2) + m % 2
def restsR (c : CA) (p : PG) (x y z w : Int32) : Int32 := if (inB x (npC c) && (inB y (nhC c) && inB z (nhC c))) = true then (if y = z then -2 else match swN w 2 with
  | some 0 => nI (cntU (okR c p (tn x) (tn y) (tn z)) 4)
  | some 1 => fir2 (okR c p (tn x) (tn y) (tn z)) cd2 4
  | _ => -2) else -1
section RESTS
variable {X : Nat × (Nat → Int32)} {d : Nat} {c : CA} {p : PG} {h : AH}
theorem c_PM_rests {x y z w : Int32} (hc : coOK c) (hp : pgOK c p) (ht : TlAt h c) (hst : StAt h 15 c p) : Call X (d + 7) 0 0 M_PM_rests [.ref 1, .int x, .int y, .int z, .int w] h (Ret (.int (restsR c p x y z w)) h) := by
  show Run X (d + 7) 0 0 M_PM_rests 0 [some (.ref 1), some (.int x), some (.int y), some (.int z), some (.int w), none, none, none, none] [] h _
  obtain ⟨kt, kd, sd, h0, hco⟩ := id ht
  obtain ⟨fhk, fpt, fan, fkd, fhd, li, g0, -⟩ := id hco
  have b1 := hc.1
  have b2 := hc.2.1
  have key : ∀ i j o, i < npC c → j < nhC c → o < nhC c → ∀ (wq : Nat), wq < 2 → ∀ R0, (wq = 0 → R0 = nI (cntU (okR c p i j o) 4)) → (wq = 1 → R0 = fir2 (okR c p i j o) cd2 4) → Run X (d + 7) 0 0 M_PM_rests 64 [some (.ref 1), some (.int (nI i)), some (.int (nI j)), some (.int (nI o)), some (.int (nI wq)), some (.int (nI 0)), some (.int (-9)), some (.int (nI 0)), none] [] h (Ret (.int R0) h) := by
    intro i j o hi hj ho wq hwq R0 hR0 hR1
    generalize hFd : okR c p i j o = F at hR0 hR1
    have hF : ∀ one two, one < 2 → two < 2 → F (2 * one + two) = (staysN c p i j one two && staysN c p i o two one) := fun one two h1 h2 => by
      rw [← hFd, okR, show (2 * one + two) / 2 = one by omega, show (2 * one + two) % 2 = two by omega]
    have inner : ∀ one, one < 2 → (∀ (u : Nat) (v : Int32) v8, u = cntU F (2 * one + 2) → v = fir2 F cd2 (2 * one + 2) → Run X (d + 7) 0 0 M_PM_rests 134 [some (.ref 1), some (.int (nI i)), some (.int (nI j)), some (.int (nI o)), some (.int (nI wq)), some (.int (nI u)), some (.int v), some (.int (nI one)), v8] [] h (Ret (.int R0) h)) → ∀ (u : Nat) (v : Int32), u = cntU F (2 * one) → v = fir2 F cd2 (2 * one) → Run X (d + 7) 0 0 M_PM_rests 73 [some (.ref 1), some (.int (nI i)), some (.int (nI j)), some (.int (nI o)), some (.int (nI wq)), some (.int (nI u)), some (.int v), some (.int (nI one)), some (.int (nI 0))] [] h (Ret (.int R0) h) := by
      intro one h1 kk u v hu hv
      refine upto 2 (fun two => ∀ (u : Nat) (v : Int32), u = cntU F (2 * one + two) → v = fir2 F cd2 (2 * one + two) → Run X (d + 7) 0 0 M_PM_rests 73 [some (.ref 1), some (.int (nI i)), some (.int (nI j)), some (.int (nI o)), some (.int (nI wq)), some (.int (nI u)), some (.int v), some (.int (nI one)), some (.int (nI two))] [] h (Ret (.int R0) h)) ?_ 0 (Nat.zero_le _) u v hu hv
      intro two h2 ih u v hu hv
      have wu : u ≤ 4 := by rw [hu]; exact Nat.le_trans (cntU_le F _) (by omega)
      have e0 : 2 * one + (two + 1) = 2 * one + two + 1 := by omega
      have e1 : F (2 * one + two) = true → cntU F (2 * one + (two + 1)) = u + 1 := fun q => by rw [e0, cntU_s, if_pos q, hu]
      have e2 : F (2 * one + two) = false → cntU F (2 * one + (two + 1)) = u := fun q => by rw [e0, cntU_s, if_neg (by rw [q]; decide), hu]
      have e3 : F (2 * one + two) = false → fir2 F cd2 (2 * one + (two + 1)) = v := fun q => by rw [e0, fir2_s, if_neg (fun z => by rw [q] at z; cases z.1), hv]
      have e4 : F (2 * one + two) = true → two < 2 → u = 0 → fir2 F cd2 (2 * one + (two + 1)) = nI (10 * one + two) := fun q1 q3 q2 => by rw [e0, fir2_s, if_pos ⟨q1, by rw [← hu]; exact q2⟩, cd2, show (2 * one + two) / 2 = one by omega, show (2 * one + two) % 2 = two by omega]
      have e5 : F (2 * one + two) = true → ¬ u = 0 → fir2 F cd2 (2 * one + (two + 1)) = v := fun q1 q2 => by rw [e0, fir2_s, if_neg (fun z => q2 (by rw [hu]; exact z.2)), hv]
      refine Run.iload d_PM_rests_73 rfl ?_
      refine Run.iconst (v := nI 1) d_PM_rests_75 ic_1 ?_
      first | refine Run.icmp_gt_n d_PM_rests_76 (by omega) (by omega) (fun c76 => ?_) (fun c76 => ?_) | refine Run.icmp_gt d_PM_rests_76 (fun c76 => ?_) (fun c76 => ?_)
      · have e8 : two = 2 := by omega
        subst e8
        exact kk u v _ hu hv
      · refine Run.aload_n d_PM_rests_79 rfl ?_
        refine Run.iload_n d_PM_rests_80 rfl ?_
        refine Run.iload_n d_PM_rests_81 rfl ?_
        refine Run.iload d_PM_rests_82 rfl ?_
        refine Run.iload d_PM_rests_84 rfl ?_
        refine Run.V4r d_PM_rests_86 lk_PM_248 cm_PM_staysWith iv_PM_staysWith rfl (by first | rfl | assumption) (Nat.le_of_ble_eq_true rfl) (Nat.le_of_ble_eq_true rfl) (c_PM_staysWith hc hp ht hst hi hj (by omega) (by omega)) ?_
        first | refine Run.if_eq_b d_PM_rests_89 (fun c89 => ?_) (fun c89 => ?_) | refine Run.if_eq_n d_PM_rests_89 (by omega) (fun c89 => ?_) (fun c89 => ?_) | refine Run.if_eq d_PM_rests_89 (fun c89 => ?_) (fun c89 => ?_)
        · first | refine Run.iinc_n d_PM_rests_128 ic_1 rfl rfl ?_ | refine Run.iinc d_PM_rests_128 rfl rfl rfl ?_
          show Run _ _ _ _ _ _ [_, _, _, _, _, _, _, _, _] _ _ _
          refine Run.goto d_PM_rests_131 ?_
          first
          | (have q0 : F (2 * one + two) = false := by rw [hF one two h1 (by omega), c89]; rfl
             exact ih (by omega) u v (e2 q0).symm (e3 q0).symm)
          | (have q0 : F (2 * one + two) = false := by rw [hF one two h1 (by omega), c89, c102]; rfl
             exact ih (by omega) u v (e2 q0).symm (e3 q0).symm)
          | (have q0 : F (2 * one + two) = true := by rw [hF one two h1 (by omega), c89, c102]; rfl
             have q1 : u = 0 := c107
             exact ih (by omega) (u + 1) _ (e1 q0).symm (e4 q0 (by omega) q1).symm)
          | (have q0 : F (2 * one + two) = true := by rw [hF one two h1 (by omega), c89, c102]; rfl
             have q1 : ¬ u = 0 := c107
             exact ih (by omega) (u + 1) v (e1 q0).symm (e5 q0 q1).symm)
        · refine Run.aload_n d_PM_rests_92 rfl ?_
          refine Run.iload_n d_PM_rests_93 rfl ?_
          refine Run.iload_n d_PM_rests_94 rfl ?_
          refine Run.iload d_PM_rests_95 rfl ?_
          refine Run.iload d_PM_rests_97 rfl ?_
          refine Run.V4r d_PM_rests_99 lk_PM_248 cm_PM_staysWith iv_PM_staysWith rfl (by first | rfl | assumption) (Nat.le_of_ble_eq_true rfl) (Nat.le_of_ble_eq_true rfl) (c_PM_staysWith hc hp ht hst hi ho (by omega) (by omega)) ?_
          first | refine Run.if_eq_b d_PM_rests_102 (fun c102 => ?_) (fun c102 => ?_) | refine Run.if_eq_n d_PM_rests_102 (by omega) (fun c102 => ?_) (fun c102 => ?_) | refine Run.if_eq d_PM_rests_102 (fun c102 => ?_) (fun c102 => ?_)
          · first | refine Run.iinc_n d_PM_rests_128 ic_1 rfl rfl ?_ | refine Run.iinc d_PM_rests_128 rfl rfl rfl ?_
            show Run _ _ _ _ _ _ [_, _, _, _, _, _, _, _, _] _ _ _
            refine Run.goto d_PM_rests_131 ?_
            first
            | (have q0 : F (2 * one + two) = false := by rw [hF one two h1 (by omega), c89]; rfl
               exact ih (by omega) u v (e2 q0).symm (e3 q0).symm)
            | (have q0 : F (2 * one + two) = false := by rw [hF one two h1 (by omega), c89, c102]; rfl
               exact ih (by omega) u v (e2 q0).symm (e3 q0).symm)
            | (have q0 : F (2 * one + two) = true := by rw [hF one two h1 (by omega), c89, c102]; rfl
               have q1 : u = 0 := c107
               exact ih (by omega) (u + 1) _ (e1 q0).symm (e4 q0 (by omega) q1).symm)
            | (have q0 : F (2 * one + two) = true := by rw [hF one two h1 (by omega), c89, c102]; rfl
               have q1 : ¬ u = 0 := c107
               exact ih (by omega) (u + 1) v (e1 q0).symm (e5 q0 q1).symm)
          · refine Run.iload d_PM_rests_105 rfl ?_
            first | refine Run.if_ne_b d_PM_rests_107 (fun c107 => ?_) (fun c107 => ?_) | refine Run.if_ne_n d_PM_rests_107 (by omega) (fun c107 => ?_) (fun c107 => ?_) | refine Run.if_ne d_PM_rests_107 (fun c107 => ?_) (fun c107 => ?_)
            · refine Run.iload d_PM_rests_121 rfl ?_
              refine Run.istore d_PM_rests_123 rfl rfl ?_
              show Run _ _ _ _ _ _ [_, _, _, _, _, _, _, _, _] _ _ _
              first | refine Run.iinc_n d_PM_rests_125 ic_1 rfl rfl ?_ | refine Run.iinc d_PM_rests_125 rfl rfl rfl ?_
              show Run _ _ _ _ _ _ [_, _, _, _, _, _, _, _, _] _ _ _
              first | refine Run.iinc_n d_PM_rests_128 ic_1 rfl rfl ?_ | refine Run.iinc d_PM_rests_128 rfl rfl rfl ?_
              show Run _ _ _ _ _ _ [_, _, _, _, _, _, _, _, _] _ _ _
              refine Run.goto d_PM_rests_131 ?_
              first
              | (have q0 : F (2 * one + two) = false := by rw [hF one two h1 (by omega), c89]; rfl
                 exact ih (by omega) u v (e2 q0).symm (e3 q0).symm)
              | (have q0 : F (2 * one + two) = false := by rw [hF one two h1 (by omega), c89, c102]; rfl
                 exact ih (by omega) u v (e2 q0).symm (e3 q0).symm)
              | (have q0 : F (2 * one + two) = true := by rw [hF one two h1 (by omega), c89, c102]; rfl
                 have q1 : u = 0 := c107
                 exact ih (by omega) (u + 1) _ (e1 q0).symm (e4 q0 (by omega) q1).symm)
              | (have q0 : F (2 * one + two) = true := by rw [hF one two h1 (by omega), c89, c102]; rfl
                 have q1 : ¬ u = 0 := c107
                 exact ih (by omega) (u + 1) v (e1 q0).symm (e5 q0 q1).symm)
            · refine Run.bipush (v := nI 10) d_PM_rests_110 bp_10 ?_
              refine Run.iload d_PM_rests_112 rfl ?_
              first | refine Run.imul_n d_PM_rests_114 ?_ | refine Run.imul d_PM_rests_114 ?_
              refine Run.iload d_PM_rests_115 rfl ?_
              first | refine Run.iadd_n d_PM_rests_117 ?_ | refine Run.iadd d_PM_rests_117 ?_
              refine Run.goto d_PM_rests_118 ?_
              refine Run.istore d_PM_rests_123 rfl rfl ?_
              show Run _ _ _ _ _ _ [_, _, _, _, _, _, _, _, _] _ _ _
              first | refine Run.iinc_n d_PM_rests_125 ic_1 rfl rfl ?_ | refine Run.iinc d_PM_rests_125 rfl rfl rfl ?_
              show Run _ _ _ _ _ _ [_, _, _, _, _, _, _, _, _] _ _ _
              first | refine Run.iinc_n d_PM_rests_128 ic_1 rfl rfl ?_ | refine Run.iinc d_PM_rests_128 rfl rfl rfl ?_
              show Run _ _ _ _ _ _ [_, _, _, _, _, _, _, _, _] _ _ _
              refine Run.goto d_PM_rests_131 ?_
              first
              | (have q0 : F (2 * one + two) = false := by rw [hF one two h1 (by omega), c89]; rfl
                 exact ih (by omega) u v (e2 q0).symm (e3 q0).symm)
              | (have q0 : F (2 * one + two) = false := by rw [hF one two h1 (by omega), c89, c102]; rfl
                 exact ih (by omega) u v (e2 q0).symm (e3 q0).symm)
              | (have q0 : F (2 * one + two) = true := by rw [hF one two h1 (by omega), c89, c102]; rfl
                 have q1 : u = 0 := c107
                 exact ih (by omega) (u + 1) _ (e1 q0).symm (e4 q0 (by omega) q1).symm)
              | (have q0 : F (2 * one + two) = true := by rw [hF one two h1 (by omega), c89, c102]; rfl
                 have q1 : ¬ u = 0 := c107
                 exact ih (by omega) (u + 1) v (e1 q0).symm (e5 q0 q1).symm)
    refine upto 2 (fun one => ∀ (u : Nat) (v : Int32) v8, u = cntU F (2 * one) → v = fir2 F cd2 (2 * one) → Run X (d + 7) 0 0 M_PM_rests 64 [some (.ref 1), some (.int (nI i)), some (.int (nI j)), some (.int (nI o)), some (.int (nI wq)), some (.int (nI u)), some (.int v), some (.int (nI one)), v8] [] h (Ret (.int R0) h)) ?_ 0 (Nat.zero_le _) 0 (-9) none rfl rfl
    intro one h1 ih u v v8 hu hv
    have h134 : one < 2 → ∀ (u : Nat) (v : Int32) v8, u = cntU F (2 * one + 2) → v = fir2 F cd2 (2 * one + 2) → Run X (d + 7) 0 0 M_PM_rests 134 [some (.ref 1), some (.int (nI i)), some (.int (nI j)), some (.int (nI o)), some (.int (nI wq)), some (.int (nI u)), some (.int v), some (.int (nI one)), v8] [] h (Ret (.int R0) h) := by
      intro q u v v8 hu hv
      first | refine Run.iinc_n d_PM_rests_134 ic_1 rfl rfl ?_ | refine Run.iinc d_PM_rests_134 rfl rfl rfl ?_
      show Run _ _ _ _ _ _ [_, _, _, _, _, _, _, _, _] _ _ _
      refine Run.goto d_PM_rests_137 ?_
      exact ih q u v v8 hu hv
    refine Run.iload d_PM_rests_64 rfl ?_
    refine Run.iconst (v := nI 1) d_PM_rests_66 ic_1 ?_
    first | refine Run.icmp_gt_n d_PM_rests_67 (by omega) (by omega) (fun c67 => ?_) (fun c67 => ?_) | refine Run.icmp_gt d_PM_rests_67 (fun c67 => ?_) (fun c67 => ?_)
    · have e8 : one = 2 := by omega
      subst e8
      refine Run.iload d_PM_rests_140 rfl ?_
      first | refine Run.if_ne_b d_PM_rests_142 (fun c142 => ?_) (fun c142 => ?_) | refine Run.if_ne_n d_PM_rests_142 (by omega) (fun c142 => ?_) (fun c142 => ?_) | refine Run.if_ne d_PM_rests_142 (fun c142 => ?_) (fun c142 => ?_)
      · refine Run.iload d_PM_rests_150 rfl ?_
        refine Run.iret d_PM_rests_152 rfl rfl ?_
        first
        | (have q1 : wq = 0 := c142
           exact ret_i (by rw [hR0 q1, hu]))
        | (have q1 : ¬ wq = 0 := c142
           exact ret_i (by rw [hR1 (by omega), hv]))
      · refine Run.iload d_PM_rests_145 rfl ?_
        refine Run.goto d_PM_rests_147 ?_
        refine Run.iret d_PM_rests_152 rfl rfl ?_
        first
        | (have q1 : wq = 0 := c142
           exact ret_i (by rw [hR0 q1, hu]))
        | (have q1 : ¬ wq = 0 := c142
           exact ret_i (by rw [hR1 (by omega), hv]))
    · refine Run.iconst (v := nI 0) d_PM_rests_70 ic_0 ?_
      refine Run.istore d_PM_rests_71 rfl rfl ?_
      show Run _ _ _ _ _ _ [_, _, _, _, _, _, _, _, _] _ _ _
      exact inner one (by omega) (h134 (by omega)) u v hu hv
  refine Run.aload_n d_PM_rests_0 rfl ?_
  refine Run.getf d_PM_rests_1 fl_PM_19 (by first | rfl | assumption) (by rfl) ?_
  refine Run.iload_n d_PM_rests_4 rfl ?_
  refine Run.V1r d_PM_rests_5 lk_PM_133 cm_Co_hasPiece iv_Co_hasPiece rfl (by first | rfl | assumption) (Nat.le_of_ble_eq_true rfl) (Nat.le_of_ble_eq_true rfl) (c_Co_hasPiece hco) ?_
  first | refine Run.if_eq_b d_PM_rests_8 (fun c8 => ?_) (fun c8 => ?_) | refine Run.if_eq_n d_PM_rests_8 (by omega) (fun c8 => ?_) (fun c8 => ?_) | refine Run.if_eq d_PM_rests_8 (fun c8 => ?_) (fun c8 => ?_)
  · refine Run.iconst (v := -1) d_PM_rests_33 ic_m1 ?_
    refine Run.iret d_PM_rests_34 rfl rfl ?_
    first
    | exact ret_i (by rw [restsR, c8, Bool.false_and]; rfl)
    | exact ret_i (by rw [restsR, c19, Bool.false_and, Bool.and_false]; rfl)
    | exact ret_i (by rw [restsR, c30, Bool.and_false, Bool.and_false]; rfl)
  · refine Run.aload_n d_PM_rests_11 rfl ?_
    refine Run.getf d_PM_rests_12 fl_PM_19 (by first | rfl | assumption) (by rfl) ?_
    refine Run.iload_n d_PM_rests_15 rfl ?_
    refine Run.V1r d_PM_rests_16 lk_PM_119 cm_Co_hasHolder iv_Co_hasHolder rfl (by first | rfl | assumption) (Nat.le_of_ble_eq_true rfl) (Nat.le_of_ble_eq_true rfl) (c_Co_hasHolder hco) ?_
    first | refine Run.if_eq_b d_PM_rests_19 (fun c19 => ?_) (fun c19 => ?_) | refine Run.if_eq_n d_PM_rests_19 (by omega) (fun c19 => ?_) (fun c19 => ?_) | refine Run.if_eq d_PM_rests_19 (fun c19 => ?_) (fun c19 => ?_)
    · refine Run.iconst (v := -1) d_PM_rests_33 ic_m1 ?_
      refine Run.iret d_PM_rests_34 rfl rfl ?_
      first
      | exact ret_i (by rw [restsR, c8, Bool.false_and]; rfl)
      | exact ret_i (by rw [restsR, c19, Bool.false_and, Bool.and_false]; rfl)
      | exact ret_i (by rw [restsR, c30, Bool.and_false, Bool.and_false]; rfl)
    · refine Run.aload_n d_PM_rests_22 rfl ?_
      refine Run.getf d_PM_rests_23 fl_PM_19 (by first | rfl | assumption) (by rfl) ?_
      refine Run.iload_n d_PM_rests_26 rfl ?_
      refine Run.V1r d_PM_rests_27 lk_PM_119 cm_Co_hasHolder iv_Co_hasHolder rfl (by first | rfl | assumption) (Nat.le_of_ble_eq_true rfl) (Nat.le_of_ble_eq_true rfl) (c_Co_hasHolder hco) ?_
      first | refine Run.if_ne_b d_PM_rests_30 (fun c30 => ?_) (fun c30 => ?_) | refine Run.if_ne_n d_PM_rests_30 (by omega) (fun c30 => ?_) (fun c30 => ?_) | refine Run.if_ne d_PM_rests_30 (fun c30 => ?_) (fun c30 => ?_)
      · refine Run.iload_n d_PM_rests_35 rfl ?_
        refine Run.iload_n d_PM_rests_36 rfl ?_
        first | refine Run.icmp_eq_n d_PM_rests_37 (by omega) (by omega) (fun c37 => ?_) (fun c37 => ?_) | refine Run.icmp_eq d_PM_rests_37 (fun c37 => ?_) (fun c37 => ?_)
        · refine Run.bipush (v := -2) d_PM_rests_51 bp_m2 ?_
          refine Run.iret d_PM_rests_53 rfl rfl ?_
          first
          | (refine ret_i ?_; rw [restsR, c8, c19, c30, if_pos (by decide), if_pos c37]; done)
          | (refine ret_i ?_; rw [restsR, c8, c19, c30, if_pos (by decide), if_neg c37, swN_lt c42]; done)
          | (refine ret_i ?_
             have e9 : swN w 2 = none := swN_ge (by
               have z2 := Int32.lt_iff_toInt_lt.mp (Int32.not_le.mp c48)
               apply Int32.le_iff_toInt_le.mpr
               rw [nI_toInt (by omega)] at z2 ⊢
               omega)
             rw [restsR, c8, c19, c30, if_pos (by decide), if_neg c37, e9]; done)
        · refine Run.iload d_PM_rests_40 rfl ?_
          refine Run.if_lt d_PM_rests_42 (fun c42 => ?_) (fun c42 => ?_)
          · refine Run.bipush (v := -2) d_PM_rests_51 bp_m2 ?_
            refine Run.iret d_PM_rests_53 rfl rfl ?_
            first
            | (refine ret_i ?_; rw [restsR, c8, c19, c30, if_pos (by decide), if_pos c37]; done)
            | (refine ret_i ?_; rw [restsR, c8, c19, c30, if_pos (by decide), if_neg c37, swN_lt c42]; done)
            | (refine ret_i ?_
               have e9 : swN w 2 = none := swN_ge (by
                 have z2 := Int32.lt_iff_toInt_lt.mp (Int32.not_le.mp c48)
                 apply Int32.le_iff_toInt_le.mpr
                 rw [nI_toInt (by omega)] at z2 ⊢
                 omega)
               rw [restsR, c8, c19, c30, if_pos (by decide), if_neg c37, e9]; done)
          · refine Run.iload d_PM_rests_45 rfl ?_
            refine Run.iconst (v := nI 1) d_PM_rests_47 ic_1 ?_
            first | refine Run.icmp_le_n d_PM_rests_48 (by omega) (by omega) (fun c48 => ?_) (fun c48 => ?_) | refine Run.icmp_le d_PM_rests_48 (fun c48 => ?_) (fun c48 => ?_)
            · obtain ⟨wq, hwq, rfl⟩ : ∃ wq, wq < 2 ∧ w = nI wq := by
                obtain ⟨q, hq, rfl⟩ := nI_of c42
                exact ⟨q, by have := (nI_leI hq (by omega)).mp c48; omega, rfl⟩
              obtain ⟨i, hi, rfl⟩ := inB_t (by omega) c8
              obtain ⟨j, hj, rfl⟩ := inB_t (by omega) c19
              obtain ⟨o, ho, rfl⟩ := inB_t (by omega) c30
              have ti : tn (nI i) = i := tn_nI (by omega)
              have tj : tn (nI j) = j := tn_nI (by omega)
              have to : tn (nI o) = o := tn_nI (by omega)
              refine Run.iconst (v := nI 0) d_PM_rests_54 ic_0 ?_
              refine Run.istore d_PM_rests_55 rfl rfl ?_
              show Run _ _ _ _ _ _ [_, _, _, _, _, _, _, _, _] _ _ _
              refine Run.bipush (v := -9) d_PM_rests_57 bp_m9 ?_
              refine Run.istore d_PM_rests_59 rfl rfl ?_
              show Run _ _ _ _ _ _ [_, _, _, _, _, _, _, _, _] _ _ _
              refine Run.iconst (v := nI 0) d_PM_rests_61 ic_0 ?_
              refine Run.istore d_PM_rests_62 rfl rfl ?_
              show Run _ _ _ _ _ _ [_, _, _, _, _, _, _, _, _] _ _ _
              refine key i j o hi hj ho wq hwq _ (fun e => ?_) (fun e => ?_)
              · subst e
                rw [restsR, c8, c19, c30, if_pos (by decide), if_neg c37, swN_in (by omega) (by omega), ti, tj, to]
                generalize nI (cntU (okR c p i j o) 4) = g1
                rfl
              · subst e
                rw [restsR, c8, c19, c30, if_pos (by decide), if_neg c37, swN_in (by omega) (by omega), ti, tj, to]
                generalize fir2 (okR c p i j o) cd2 4 = g2
                rfl
            · refine Run.bipush (v := -2) d_PM_rests_51 bp_m2 ?_
              refine Run.iret d_PM_rests_53 rfl rfl ?_
              first
              | (refine ret_i ?_; rw [restsR, c8, c19, c30, if_pos (by decide), if_pos c37]; done)
              | (refine ret_i ?_; rw [restsR, c8, c19, c30, if_pos (by decide), if_neg c37, swN_lt c42]; done)
              | (refine ret_i ?_
                 have e9 : swN w 2 = none := swN_ge (by
                   have z2 := Int32.lt_iff_toInt_lt.mp (Int32.not_le.mp c48)
                   apply Int32.le_iff_toInt_le.mpr
                   rw [nI_toInt (by omega)] at z2 ⊢
                   omega)
                 rw [restsR, c8, c19, c30, if_pos (by decide), if_neg c37, e9]; done)
      · refine Run.iconst (v := -1) d_PM_rests_33 ic_m1 ?_
        refine Run.iret d_PM_rests_34 rfl rfl ?_
        first
        | exact ret_i (by rw [restsR, c8, Bool.false_and]; rfl)
        | exact ret_i (by rw [restsR, c19, Bool.false_and, Bool.and_false]; rfl)
        | exact ret_i (by rw [restsR, c30, Bool.and_false, Bool.and_false]; rfl)
end RESTS
