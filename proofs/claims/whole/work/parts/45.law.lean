/-! ===== the law: each case, the loop, the start ===== -/
def QL : Option Value → AH → Prop := fun r _ => r = some (.int 1)
theorem Run.sld_n {X : Nat × (Nat → Int32)} {d kc ks : Nat} {M : MR} {pc nx : Nat} {L : List (Option Value)} {S : List Value} {h : AH} {Q : Option Value → AH → Prop} {j : Nat} (hd : DI M pc .iaload 1 nx) (hj : j < X.1) (hL : X.1 < 2 ^ 31) (kk : Run X d kc ks M nx L (.int (X.2 j) :: S) h Q) : Run X d kc ks M pc L (.int (nI j) :: .ref 0 :: S) h Q := Run.sld hd (pk_in j X.1 hj rfl hL) (by rw [nI_clamp (by omega)]; exact kk)
section LAW
variable {X : Nat × (Nat → Int32)} {i : Nat} {h : AH}
theorem l_write (hI : InvH i h) (hlt : 6 * i + 6 ≤ X.1) (hL : X.1 ≤ 3072) (kk : ∀ h2, InvH (i + 1) h2 → Run X 41 0 0 M_La_law 1093 [some (.ref 0), some (.ref 1), some (.ref 44), some (.int (nI (6 * i)))] [] h2 QL) : Run X 41 0 0 M_La_law 168 [some (.ref 0), some (.ref 1), some (.ref 44), some (.int (nI (6 * i)))] [] h QL := by
  obtain ⟨⟨fs, hfs⟩, v, Q1, hc1, hk1⟩ := pr_write (X := X) (N := i) (x := X.2 (6 * i + 1)) (by omega) h hI
  refine Run.aload_n d_La_law_168 rfl ?_
  refine Run.aload_n d_La_law_169 rfl ?_
  refine Run.iload_n d_La_law_170 rfl ?_
  refine Run.iconst (v := nI 1) d_La_law_171 ic_1 ?_
  refine Run.iadd_n d_La_law_172 ?_
  refine Run.sld_n d_La_law_173 (by omega) (by omega) ?_
  refine Run.V1 d_La_law_174 lk_La_13 cm_PM_write iv_PM_write rfl hfs (Nat.le_of_ble_eq_true rfl) (Nat.le_of_ble_eq_true rfl) hc1 (fun r1 h1 q1 => ?_)
  obtain ⟨rfl, ⟨fs2, hfs2⟩, Q2, hc2, hk2⟩ := hk1 r1 h1 q1
  show Run _ _ _ _ _ _ _ [.int v] _ _
  refine Run.aload_n d_La_law_177 rfl ?_
  refine Run.aload_n d_La_law_178 rfl ?_
  refine Run.iload_n d_La_law_179 rfl ?_
  refine Run.iconst (v := nI 1) d_La_law_180 ic_1 ?_
  refine Run.iadd_n d_La_law_181 ?_
  refine Run.sld_n d_La_law_182 (by omega) (by omega) ?_
  refine Run.V1 d_La_law_183 lk_La_17 cm_Rf_write iv_Rf_write rfl hfs2 (Nat.le_of_ble_eq_true rfl) (Nat.le_of_ble_eq_true rfl) hc2 (fun r2 h2 q2 => ?_)
  obtain ⟨rfl, hI2⟩ := hk2 r2 h2 q2
  show Run _ _ _ _ _ _ _ [.int v, .int v] _ _
  exact Run.icmp_eq d_La_law_186 (fun _ => kk h2 hI2) (fun z => absurd rfl z)
theorem l_wipe (hI : InvH i h) (hlt : 6 * i + 6 ≤ X.1) (hL : X.1 ≤ 3072) (kk : ∀ h2, InvH (i + 1) h2 → Run X 41 0 0 M_La_law 1093 [some (.ref 0), some (.ref 1), some (.ref 44), some (.int (nI (6 * i)))] [] h2 QL) : Run X 41 0 0 M_La_law 191 [some (.ref 0), some (.ref 1), some (.ref 44), some (.int (nI (6 * i)))] [] h QL := by
  obtain ⟨⟨fs, hfs⟩, v, Q1, hc1, hk1⟩ := pr_wipe (X := X) (N := i)  (by omega) h hI
  refine Run.aload_n d_La_law_191 rfl ?_
  refine Run.V0 d_La_law_192 lk_La_18 cm_PM_wipe iv_PM_wipe rfl hfs (Nat.le_of_ble_eq_true rfl) (Nat.le_of_ble_eq_true rfl) hc1 (fun r1 h1 q1 => ?_)
  obtain ⟨rfl, ⟨fs2, hfs2⟩, Q2, hc2, hk2⟩ := hk1 r1 h1 q1
  show Run _ _ _ _ _ _ _ [.int v] _ _
  refine Run.aload_n d_La_law_195 rfl ?_
  refine Run.V0 d_La_law_196 lk_La_22 cm_Rf_wipe iv_Rf_wipe rfl hfs2 (Nat.le_of_ble_eq_true rfl) (Nat.le_of_ble_eq_true rfl) hc2 (fun r2 h2 q2 => ?_)
  obtain ⟨rfl, hI2⟩ := hk2 r2 h2 q2
  show Run _ _ _ _ _ _ _ [.int v, .int v] _ _
  exact Run.icmp_eq d_La_law_199 (fun _ => kk h2 hI2) (fun z => absurd rfl z)
theorem l_fault (hI : InvH i h) (hlt : 6 * i + 6 ≤ X.1) (hL : X.1 ≤ 3072) (kk : ∀ h2, InvH (i + 1) h2 → Run X 41 0 0 M_La_law 1093 [some (.ref 0), some (.ref 1), some (.ref 44), some (.int (nI (6 * i)))] [] h2 QL) : Run X 41 0 0 M_La_law 204 [some (.ref 0), some (.ref 1), some (.ref 44), some (.int (nI (6 * i)))] [] h QL := by
  obtain ⟨⟨fs, hfs⟩, v, Q1, hc1, hk1⟩ := pr_fault (X := X) (N := i)  (by omega) h hI
  refine Run.aload_n d_La_law_204 rfl ?_
  refine Run.V0 d_La_law_205 lk_La_23 cm_PM_fault iv_PM_fault rfl hfs (Nat.le_of_ble_eq_true rfl) (Nat.le_of_ble_eq_true rfl) hc1 (fun r1 h1 q1 => ?_)
  obtain ⟨rfl, ⟨fs2, hfs2⟩, Q2, hc2, hk2⟩ := hk1 r1 h1 q1
  show Run _ _ _ _ _ _ _ [.int v] _ _
  refine Run.aload_n d_La_law_208 rfl ?_
  refine Run.V0 d_La_law_209 lk_La_26 cm_Rf_fault iv_Rf_fault rfl hfs2 (Nat.le_of_ble_eq_true rfl) (Nat.le_of_ble_eq_true rfl) hc2 (fun r2 h2 q2 => ?_)
  obtain ⟨rfl, hI2⟩ := hk2 r2 h2 q2
  show Run _ _ _ _ _ _ _ [.int v, .int v] _ _
  exact Run.icmp_eq d_La_law_212 (fun _ => kk h2 hI2) (fun z => absurd rfl z)
theorem l_coast (hI : InvH i h) (hlt : 6 * i + 6 ≤ X.1) (hL : X.1 ≤ 3072) (kk : ∀ h2, InvH (i + 1) h2 → Run X 41 0 0 M_La_law 1093 [some (.ref 0), some (.ref 1), some (.ref 44), some (.int (nI (6 * i)))] [] h2 QL) : Run X 41 0 0 M_La_law 217 [some (.ref 0), some (.ref 1), some (.ref 44), some (.int (nI (6 * i)))] [] h QL := by
  obtain ⟨⟨fs, hfs⟩, v, Q1, hc1, hk1⟩ := pr_coast (X := X) (N := i)  (by omega) h hI
  refine Run.aload_n d_La_law_217 rfl ?_
  refine Run.V0 d_La_law_218 lk_La_27 cm_PM_coast iv_PM_coast rfl hfs (Nat.le_of_ble_eq_true rfl) (Nat.le_of_ble_eq_true rfl) hc1 (fun r1 h1 q1 => ?_)
  obtain ⟨rfl, ⟨fs2, hfs2⟩, Q2, hc2, hk2⟩ := hk1 r1 h1 q1
  show Run _ _ _ _ _ _ _ [.int v] _ _
  refine Run.aload_n d_La_law_221 rfl ?_
  refine Run.V0 d_La_law_222 lk_La_30 cm_Rf_coast iv_Rf_coast rfl hfs2 (Nat.le_of_ble_eq_true rfl) (Nat.le_of_ble_eq_true rfl) hc2 (fun r2 h2 q2 => ?_)
  obtain ⟨rfl, hI2⟩ := hk2 r2 h2 q2
  show Run _ _ _ _ _ _ _ [.int v, .int v] _ _
  exact Run.icmp_eq d_La_law_225 (fun _ => kk h2 hI2) (fun z => absurd rfl z)
theorem l_about (hI : InvH i h) (hlt : 6 * i + 6 ≤ X.1) (hL : X.1 ≤ 3072) (kk : ∀ h2, InvH (i + 1) h2 → Run X 41 0 0 M_La_law 1093 [some (.ref 0), some (.ref 1), some (.ref 44), some (.int (nI (6 * i)))] [] h2 QL) : Run X 41 0 0 M_La_law 230 [some (.ref 0), some (.ref 1), some (.ref 44), some (.int (nI (6 * i)))] [] h QL := by
  obtain ⟨⟨fs, hfs⟩, v, Q1, hc1, hk1⟩ := pr_about (X := X) (N := i) (x := X.2 (6 * i + 1)) (by omega) h hI
  refine Run.aload_n d_La_law_230 rfl ?_
  refine Run.aload_n d_La_law_231 rfl ?_
  refine Run.iload_n d_La_law_232 rfl ?_
  refine Run.iconst (v := nI 1) d_La_law_233 ic_1 ?_
  refine Run.iadd_n d_La_law_234 ?_
  refine Run.sld_n d_La_law_235 (by omega) (by omega) ?_
  refine Run.V1 d_La_law_236 lk_La_31 cm_PM_about iv_PM_about rfl hfs (Nat.le_of_ble_eq_true rfl) (Nat.le_of_ble_eq_true rfl) hc1 (fun r1 h1 q1 => ?_)
  obtain ⟨rfl, ⟨fs2, hfs2⟩, Q2, hc2, hk2⟩ := hk1 r1 h1 q1
  show Run _ _ _ _ _ _ _ [.int v] _ _
  refine Run.aload_n d_La_law_239 rfl ?_
  refine Run.aload_n d_La_law_240 rfl ?_
  refine Run.iload_n d_La_law_241 rfl ?_
  refine Run.iconst (v := nI 1) d_La_law_242 ic_1 ?_
  refine Run.iadd_n d_La_law_243 ?_
  refine Run.sld_n d_La_law_244 (by omega) (by omega) ?_
  refine Run.V1 d_La_law_245 lk_La_34 cm_Rf_about iv_Rf_about rfl hfs2 (Nat.le_of_ble_eq_true rfl) (Nat.le_of_ble_eq_true rfl) hc2 (fun r2 h2 q2 => ?_)
  obtain ⟨rfl, hI2⟩ := hk2 r2 h2 q2
  show Run _ _ _ _ _ _ _ [.int v, .int v] _ _
  exact Run.icmp_eq d_La_law_248 (fun _ => kk h2 hI2) (fun z => absurd rfl z)
theorem l_holder (hI : InvH i h) (hlt : 6 * i + 6 ≤ X.1) (hL : X.1 ≤ 3072) (kk : ∀ h2, InvH (i + 1) h2 → Run X 41 0 0 M_La_law 1093 [some (.ref 0), some (.ref 1), some (.ref 44), some (.int (nI (6 * i)))] [] h2 QL) : Run X 41 0 0 M_La_law 253 [some (.ref 0), some (.ref 1), some (.ref 44), some (.int (nI (6 * i)))] [] h QL := by
  obtain ⟨⟨fs, hfs⟩, v, Q1, hc1, hk1⟩ := pr_holder (X := X) (N := i) (x := X.2 (6 * i + 1)) (y := X.2 (6 * i + 2)) (by omega) h hI
  refine Run.aload_n d_La_law_253 rfl ?_
  refine Run.aload_n d_La_law_254 rfl ?_
  refine Run.iload_n d_La_law_255 rfl ?_
  refine Run.iconst (v := nI 1) d_La_law_256 ic_1 ?_
  refine Run.iadd_n d_La_law_257 ?_
  refine Run.sld_n d_La_law_258 (by omega) (by omega) ?_
  refine Run.aload_n d_La_law_259 rfl ?_
  refine Run.iload_n d_La_law_260 rfl ?_
  refine Run.iconst (v := nI 2) d_La_law_261 ic_2 ?_
  refine Run.iadd_n d_La_law_262 ?_
  refine Run.sld_n d_La_law_263 (by omega) (by omega) ?_
  refine Run.V2 d_La_law_264 lk_La_35 cm_PM_holder iv_PM_holder rfl hfs (Nat.le_of_ble_eq_true rfl) (Nat.le_of_ble_eq_true rfl) hc1 (fun r1 h1 q1 => ?_)
  obtain ⟨rfl, ⟨fs2, hfs2⟩, Q2, hc2, hk2⟩ := hk1 r1 h1 q1
  show Run _ _ _ _ _ _ _ [.int v] _ _
  refine Run.aload_n d_La_law_267 rfl ?_
  refine Run.aload_n d_La_law_268 rfl ?_
  refine Run.iload_n d_La_law_269 rfl ?_
  refine Run.iconst (v := nI 1) d_La_law_270 ic_1 ?_
  refine Run.iadd_n d_La_law_271 ?_
  refine Run.sld_n d_La_law_272 (by omega) (by omega) ?_
  refine Run.aload_n d_La_law_273 rfl ?_
  refine Run.iload_n d_La_law_274 rfl ?_
  refine Run.iconst (v := nI 2) d_La_law_275 ic_2 ?_
  refine Run.iadd_n d_La_law_276 ?_
  refine Run.sld_n d_La_law_277 (by omega) (by omega) ?_
  refine Run.V2 d_La_law_278 lk_La_39 cm_Rf_holder iv_Rf_holder rfl hfs2 (Nat.le_of_ble_eq_true rfl) (Nat.le_of_ble_eq_true rfl) hc2 (fun r2 h2 q2 => ?_)
  obtain ⟨rfl, hI2⟩ := hk2 r2 h2 q2
  show Run _ _ _ _ _ _ _ [.int v, .int v] _ _
  exact Run.icmp_eq d_La_law_281 (fun _ => kk h2 hI2) (fun z => absurd rfl z)
theorem l_piece (hI : InvH i h) (hlt : 6 * i + 6 ≤ X.1) (hL : X.1 ≤ 3072) (kk : ∀ h2, InvH (i + 1) h2 → Run X 41 0 0 M_La_law 1093 [some (.ref 0), some (.ref 1), some (.ref 44), some (.int (nI (6 * i)))] [] h2 QL) : Run X 41 0 0 M_La_law 286 [some (.ref 0), some (.ref 1), some (.ref 44), some (.int (nI (6 * i)))] [] h QL := by
  obtain ⟨⟨fs, hfs⟩, v, Q1, hc1, hk1⟩ := pr_piece (X := X) (N := i) (x := X.2 (6 * i + 1)) (y := X.2 (6 * i + 2)) (by omega) h hI
  refine Run.aload_n d_La_law_286 rfl ?_
  refine Run.aload_n d_La_law_287 rfl ?_
  refine Run.iload_n d_La_law_288 rfl ?_
  refine Run.iconst (v := nI 1) d_La_law_289 ic_1 ?_
  refine Run.iadd_n d_La_law_290 ?_
  refine Run.sld_n d_La_law_291 (by omega) (by omega) ?_
  refine Run.aload_n d_La_law_292 rfl ?_
  refine Run.iload_n d_La_law_293 rfl ?_
  refine Run.iconst (v := nI 2) d_La_law_294 ic_2 ?_
  refine Run.iadd_n d_La_law_295 ?_
  refine Run.sld_n d_La_law_296 (by omega) (by omega) ?_
  refine Run.V2 d_La_law_297 lk_La_40 cm_PM_piece iv_PM_piece rfl hfs (Nat.le_of_ble_eq_true rfl) (Nat.le_of_ble_eq_true rfl) hc1 (fun r1 h1 q1 => ?_)
  obtain ⟨rfl, ⟨fs2, hfs2⟩, Q2, hc2, hk2⟩ := hk1 r1 h1 q1
  show Run _ _ _ _ _ _ _ [.int v] _ _
  refine Run.aload_n d_La_law_300 rfl ?_
  refine Run.aload_n d_La_law_301 rfl ?_
  refine Run.iload_n d_La_law_302 rfl ?_
  refine Run.iconst (v := nI 1) d_La_law_303 ic_1 ?_
  refine Run.iadd_n d_La_law_304 ?_
  refine Run.sld_n d_La_law_305 (by omega) (by omega) ?_
  refine Run.aload_n d_La_law_306 rfl ?_
  refine Run.iload_n d_La_law_307 rfl ?_
  refine Run.iconst (v := nI 2) d_La_law_308 ic_2 ?_
  refine Run.iadd_n d_La_law_309 ?_
  refine Run.sld_n d_La_law_310 (by omega) (by omega) ?_
  refine Run.V2 d_La_law_311 lk_La_43 cm_Rf_piece iv_Rf_piece rfl hfs2 (Nat.le_of_ble_eq_true rfl) (Nat.le_of_ble_eq_true rfl) hc2 (fun r2 h2 q2 => ?_)
  obtain ⟨rfl, hI2⟩ := hk2 r2 h2 q2
  show Run _ _ _ _ _ _ _ [.int v, .int v] _ _
  exact Run.icmp_eq d_La_law_314 (fun _ => kk h2 hI2) (fun z => absurd rfl z)
theorem l_shows (hI : InvH i h) (hlt : 6 * i + 6 ≤ X.1) (hL : X.1 ≤ 3072) (kk : ∀ h2, InvH (i + 1) h2 → Run X 41 0 0 M_La_law 1093 [some (.ref 0), some (.ref 1), some (.ref 44), some (.int (nI (6 * i)))] [] h2 QL) : Run X 41 0 0 M_La_law 319 [some (.ref 0), some (.ref 1), some (.ref 44), some (.int (nI (6 * i)))] [] h QL := by
  obtain ⟨⟨fs, hfs⟩, v, Q1, hc1, hk1⟩ := pr_shows (X := X) (N := i) (x := X.2 (6 * i + 1)) (y := X.2 (6 * i + 2)) (a := X.2 (6 * i + 3)) (by omega) h hI
  refine Run.aload_n d_La_law_319 rfl ?_
  refine Run.aload_n d_La_law_320 rfl ?_
  refine Run.iload_n d_La_law_321 rfl ?_
  refine Run.iconst (v := nI 1) d_La_law_322 ic_1 ?_
  refine Run.iadd_n d_La_law_323 ?_
  refine Run.sld_n d_La_law_324 (by omega) (by omega) ?_
  refine Run.aload_n d_La_law_325 rfl ?_
  refine Run.iload_n d_La_law_326 rfl ?_
  refine Run.iconst (v := nI 2) d_La_law_327 ic_2 ?_
  refine Run.iadd_n d_La_law_328 ?_
  refine Run.sld_n d_La_law_329 (by omega) (by omega) ?_
  refine Run.aload_n d_La_law_330 rfl ?_
  refine Run.iload_n d_La_law_331 rfl ?_
  refine Run.iconst (v := nI 3) d_La_law_332 ic_3 ?_
  refine Run.iadd_n d_La_law_333 ?_
  refine Run.sld_n d_La_law_334 (by omega) (by omega) ?_
  refine Run.V3 d_La_law_335 lk_La_44 cm_PM_shows iv_PM_shows rfl hfs (Nat.le_of_ble_eq_true rfl) (Nat.le_of_ble_eq_true rfl) hc1 (fun r1 h1 q1 => ?_)
  obtain ⟨rfl, ⟨fs2, hfs2⟩, Q2, hc2, hk2⟩ := hk1 r1 h1 q1
  show Run _ _ _ _ _ _ _ [.int v] _ _
  refine Run.aload_n d_La_law_338 rfl ?_
  refine Run.aload_n d_La_law_339 rfl ?_
  refine Run.iload_n d_La_law_340 rfl ?_
  refine Run.iconst (v := nI 1) d_La_law_341 ic_1 ?_
  refine Run.iadd_n d_La_law_342 ?_
  refine Run.sld_n d_La_law_343 (by omega) (by omega) ?_
  refine Run.aload_n d_La_law_344 rfl ?_
  refine Run.iload_n d_La_law_345 rfl ?_
  refine Run.iconst (v := nI 2) d_La_law_346 ic_2 ?_
  refine Run.iadd_n d_La_law_347 ?_
  refine Run.sld_n d_La_law_348 (by omega) (by omega) ?_
  refine Run.aload_n d_La_law_349 rfl ?_
  refine Run.iload_n d_La_law_350 rfl ?_
  refine Run.iconst (v := nI 3) d_La_law_351 ic_3 ?_
  refine Run.iadd_n d_La_law_352 ?_
  refine Run.sld_n d_La_law_353 (by omega) (by omega) ?_
  refine Run.V3 d_La_law_354 lk_La_48 cm_Rf_shows iv_Rf_shows rfl hfs2 (Nat.le_of_ble_eq_true rfl) (Nat.le_of_ble_eq_true rfl) hc2 (fun r2 h2 q2 => ?_)
  obtain ⟨rfl, hI2⟩ := hk2 r2 h2 q2
  show Run _ _ _ _ _ _ _ [.int v, .int v] _ _
  exact Run.icmp_eq d_La_law_357 (fun _ => kk h2 hI2) (fun z => absurd rfl z)
theorem l_tilt (hI : InvH i h) (hlt : 6 * i + 6 ≤ X.1) (hL : X.1 ≤ 3072) (kk : ∀ h2, InvH (i + 1) h2 → Run X 41 0 0 M_La_law 1093 [some (.ref 0), some (.ref 1), some (.ref 44), some (.int (nI (6 * i)))] [] h2 QL) : Run X 41 0 0 M_La_law 362 [some (.ref 0), some (.ref 1), some (.ref 44), some (.int (nI (6 * i)))] [] h QL := by
  by_cases hz : X.2 (6 * i + 2) = 0
  · obtain ⟨⟨fs, hfs⟩, v, Q1, hc1, hk1⟩ := pr_tilt (X := X) (N := i) (x := X.2 (6 * i + 1)) (u := false) (by omega) h hI
    refine Run.aload_n d_La_law_362 rfl ?_
    refine Run.aload_n d_La_law_363 rfl ?_
    refine Run.iload_n d_La_law_364 rfl ?_
    refine Run.iconst (v := nI 1) d_La_law_365 ic_1 ?_
    refine Run.iadd_n d_La_law_366 ?_
    refine Run.sld_n d_La_law_367 (by omega) (by omega) ?_
    refine Run.aload_n d_La_law_368 rfl ?_
    refine Run.iload_n d_La_law_369 rfl ?_
    refine Run.iconst (v := nI 2) d_La_law_370 ic_2 ?_
    refine Run.iadd_n d_La_law_371 ?_
    refine Run.sld_n d_La_law_372 (by omega) (by omega) ?_
    refine Run.if_eq d_La_law_373 (fun _ => ?_) (fun z => absurd hz z)
    refine Run.iconst (v := nI 0) d_La_law_380 ic_0 ?_
    refine Run.V2 d_La_law_381 lk_La_49 cm_PM_tilt iv_PM_tilt rfl hfs (Nat.le_of_ble_eq_true rfl) (Nat.le_of_ble_eq_true rfl) hc1 (fun r1 h1 q1 => ?_)
    obtain ⟨rfl, ⟨fs2, hfs2⟩, Q2, hc2, hk2⟩ := hk1 r1 h1 q1
    show Run _ _ _ _ _ _ _ [.int v] _ _
    refine Run.aload_n d_La_law_384 rfl ?_
    refine Run.aload_n d_La_law_385 rfl ?_
    refine Run.iload_n d_La_law_386 rfl ?_
    refine Run.iconst (v := nI 1) d_La_law_387 ic_1 ?_
    refine Run.iadd_n d_La_law_388 ?_
    refine Run.sld_n d_La_law_389 (by omega) (by omega) ?_
    refine Run.aload_n d_La_law_390 rfl ?_
    refine Run.iload_n d_La_law_391 rfl ?_
    refine Run.iconst (v := nI 2) d_La_law_392 ic_2 ?_
    refine Run.iadd_n d_La_law_393 ?_
    refine Run.sld_n d_La_law_394 (by omega) (by omega) ?_
    refine Run.if_eq d_La_law_395 (fun _ => ?_) (fun z => absurd hz z)
    refine Run.iconst (v := nI 0) d_La_law_402 ic_0 ?_
    refine Run.V2 d_La_law_403 lk_La_53 cm_Rf_tilt iv_Rf_tilt rfl hfs2 (Nat.le_of_ble_eq_true rfl) (Nat.le_of_ble_eq_true rfl) hc2 (fun r2 h2 q2 => ?_)
    obtain ⟨rfl, hI2⟩ := hk2 r2 h2 q2
    show Run _ _ _ _ _ _ _ [.int v, .int v] _ _
    exact Run.icmp_eq d_La_law_406 (fun _ => kk h2 hI2) (fun z => absurd rfl z)
  · obtain ⟨⟨fs, hfs⟩, v, Q1, hc1, hk1⟩ := pr_tilt (X := X) (N := i) (x := X.2 (6 * i + 1)) (u := true) (by omega) h hI
    refine Run.aload_n d_La_law_362 rfl ?_
    refine Run.aload_n d_La_law_363 rfl ?_
    refine Run.iload_n d_La_law_364 rfl ?_
    refine Run.iconst (v := nI 1) d_La_law_365 ic_1 ?_
    refine Run.iadd_n d_La_law_366 ?_
    refine Run.sld_n d_La_law_367 (by omega) (by omega) ?_
    refine Run.aload_n d_La_law_368 rfl ?_
    refine Run.iload_n d_La_law_369 rfl ?_
    refine Run.iconst (v := nI 2) d_La_law_370 ic_2 ?_
    refine Run.iadd_n d_La_law_371 ?_
    refine Run.sld_n d_La_law_372 (by omega) (by omega) ?_
    refine Run.if_eq d_La_law_373 (fun z => absurd z hz) (fun _ => ?_)
    refine Run.iconst (v := nI 1) d_La_law_376 ic_1 ?_
    refine Run.goto d_La_law_377 ?_
    refine Run.V2 d_La_law_381 lk_La_49 cm_PM_tilt iv_PM_tilt rfl hfs (Nat.le_of_ble_eq_true rfl) (Nat.le_of_ble_eq_true rfl) hc1 (fun r1 h1 q1 => ?_)
    obtain ⟨rfl, ⟨fs2, hfs2⟩, Q2, hc2, hk2⟩ := hk1 r1 h1 q1
    show Run _ _ _ _ _ _ _ [.int v] _ _
    refine Run.aload_n d_La_law_384 rfl ?_
    refine Run.aload_n d_La_law_385 rfl ?_
    refine Run.iload_n d_La_law_386 rfl ?_
    refine Run.iconst (v := nI 1) d_La_law_387 ic_1 ?_
    refine Run.iadd_n d_La_law_388 ?_
    refine Run.sld_n d_La_law_389 (by omega) (by omega) ?_
    refine Run.aload_n d_La_law_390 rfl ?_
    refine Run.iload_n d_La_law_391 rfl ?_
    refine Run.iconst (v := nI 2) d_La_law_392 ic_2 ?_
    refine Run.iadd_n d_La_law_393 ?_
    refine Run.sld_n d_La_law_394 (by omega) (by omega) ?_
    refine Run.if_eq d_La_law_395 (fun z => absurd z hz) (fun _ => ?_)
    refine Run.iconst (v := nI 1) d_La_law_398 ic_1 ?_
    refine Run.goto d_La_law_399 ?_
    refine Run.V2 d_La_law_403 lk_La_53 cm_Rf_tilt iv_Rf_tilt rfl hfs2 (Nat.le_of_ble_eq_true rfl) (Nat.le_of_ble_eq_true rfl) hc2 (fun r2 h2 q2 => ?_)
    obtain ⟨rfl, hI2⟩ := hk2 r2 h2 q2
    show Run _ _ _ _ _ _ _ [.int v, .int v] _ _
    exact Run.icmp_eq d_La_law_406 (fun _ => kk h2 hI2) (fun z => absurd rfl z)
theorem l_give (hI : InvH i h) (hlt : 6 * i + 6 ≤ X.1) (hL : X.1 ≤ 3072) (kk : ∀ h2, InvH (i + 1) h2 → Run X 41 0 0 M_La_law 1093 [some (.ref 0), some (.ref 1), some (.ref 44), some (.int (nI (6 * i)))] [] h2 QL) : Run X 41 0 0 M_La_law 411 [some (.ref 0), some (.ref 1), some (.ref 44), some (.int (nI (6 * i)))] [] h QL := by
  obtain ⟨⟨fs, hfs⟩, v, Q1, hc1, hk1⟩ := pr_give (X := X) (N := i) (x := X.2 (6 * i + 1)) (y := X.2 (6 * i + 2)) (by omega) h hI
  refine Run.aload_n d_La_law_411 rfl ?_
  refine Run.aload_n d_La_law_412 rfl ?_
  refine Run.iload_n d_La_law_413 rfl ?_
  refine Run.iconst (v := nI 1) d_La_law_414 ic_1 ?_
  refine Run.iadd_n d_La_law_415 ?_
  refine Run.sld_n d_La_law_416 (by omega) (by omega) ?_
  refine Run.aload_n d_La_law_417 rfl ?_
  refine Run.iload_n d_La_law_418 rfl ?_
  refine Run.iconst (v := nI 2) d_La_law_419 ic_2 ?_
  refine Run.iadd_n d_La_law_420 ?_
  refine Run.sld_n d_La_law_421 (by omega) (by omega) ?_
  refine Run.V2 d_La_law_422 lk_La_54 cm_PM_give iv_PM_give rfl hfs (Nat.le_of_ble_eq_true rfl) (Nat.le_of_ble_eq_true rfl) hc1 (fun r1 h1 q1 => ?_)
  obtain ⟨rfl, ⟨fs2, hfs2⟩, Q2, hc2, hk2⟩ := hk1 r1 h1 q1
  show Run _ _ _ _ _ _ _ [.int v] _ _
  refine Run.aload_n d_La_law_425 rfl ?_
  refine Run.aload_n d_La_law_426 rfl ?_
  refine Run.iload_n d_La_law_427 rfl ?_
  refine Run.iconst (v := nI 1) d_La_law_428 ic_1 ?_
  refine Run.iadd_n d_La_law_429 ?_
  refine Run.sld_n d_La_law_430 (by omega) (by omega) ?_
  refine Run.aload_n d_La_law_431 rfl ?_
  refine Run.iload_n d_La_law_432 rfl ?_
  refine Run.iconst (v := nI 2) d_La_law_433 ic_2 ?_
  refine Run.iadd_n d_La_law_434 ?_
  refine Run.sld_n d_La_law_435 (by omega) (by omega) ?_
  refine Run.V2 d_La_law_436 lk_La_57 cm_Rf_give iv_Rf_give rfl hfs2 (Nat.le_of_ble_eq_true rfl) (Nat.le_of_ble_eq_true rfl) hc2 (fun r2 h2 q2 => ?_)
  obtain ⟨rfl, hI2⟩ := hk2 r2 h2 q2
  show Run _ _ _ _ _ _ _ [.int v, .int v] _ _
  exact Run.icmp_eq d_La_law_439 (fun _ => kk h2 hI2) (fun z => absurd rfl z)
theorem l_hour (hI : InvH i h) (hlt : 6 * i + 6 ≤ X.1) (hL : X.1 ≤ 3072) (kk : ∀ h2, InvH (i + 1) h2 → Run X 41 0 0 M_La_law 1093 [some (.ref 0), some (.ref 1), some (.ref 44), some (.int (nI (6 * i)))] [] h2 QL) : Run X 41 0 0 M_La_law 444 [some (.ref 0), some (.ref 1), some (.ref 44), some (.int (nI (6 * i)))] [] h QL := by
  obtain ⟨⟨fs, hfs⟩, v, Q1, hc1, hk1⟩ := pr_hour (X := X) (N := i)  (by omega) h hI
  refine Run.aload_n d_La_law_444 rfl ?_
  refine Run.V0 d_La_law_445 lk_La_58 cm_PM_hour iv_PM_hour rfl hfs (Nat.le_of_ble_eq_true rfl) (Nat.le_of_ble_eq_true rfl) hc1 (fun r1 h1 q1 => ?_)
  obtain ⟨rfl, ⟨fs2, hfs2⟩, Q2, hc2, hk2⟩ := hk1 r1 h1 q1
  show Run _ _ _ _ _ _ _ [.int v] _ _
  refine Run.aload_n d_La_law_448 rfl ?_
  refine Run.V0 d_La_law_449 lk_La_61 cm_Rf_hour iv_Rf_hour rfl hfs2 (Nat.le_of_ble_eq_true rfl) (Nat.le_of_ble_eq_true rfl) hc2 (fun r2 h2 q2 => ?_)
  obtain ⟨rfl, hI2⟩ := hk2 r2 h2 q2
  show Run _ _ _ _ _ _ _ [.int v, .int v] _ _
  exact Run.icmp_eq d_La_law_452 (fun _ => kk h2 hI2) (fun z => absurd rfl z)
theorem l_undo (hI : InvH i h) (hlt : 6 * i + 6 ≤ X.1) (hL : X.1 ≤ 3072) (kk : ∀ h2, InvH (i + 1) h2 → Run X 41 0 0 M_La_law 1093 [some (.ref 0), some (.ref 1), some (.ref 44), some (.int (nI (6 * i)))] [] h2 QL) : Run X 41 0 0 M_La_law 457 [some (.ref 0), some (.ref 1), some (.ref 44), some (.int (nI (6 * i)))] [] h QL := by
  obtain ⟨⟨fs, hfs⟩, v, Q1, hc1, hk1⟩ := pr_undo (X := X) (N := i)  (by omega) h hI
  refine Run.aload_n d_La_law_457 rfl ?_
  refine Run.V0 d_La_law_458 lk_La_62 cm_PM_undo iv_PM_undo rfl hfs (Nat.le_of_ble_eq_true rfl) (Nat.le_of_ble_eq_true rfl) hc1 (fun r1 h1 q1 => ?_)
  obtain ⟨rfl, ⟨fs2, hfs2⟩, Q2, hc2, hk2⟩ := hk1 r1 h1 q1
  show Run _ _ _ _ _ _ _ [.int v] _ _
  refine Run.aload_n d_La_law_461 rfl ?_
  refine Run.V0 d_La_law_462 lk_La_65 cm_Rf_undo iv_Rf_undo rfl hfs2 (Nat.le_of_ble_eq_true rfl) (Nat.le_of_ble_eq_true rfl) hc2 (fun r2 h2 q2 => ?_)
  obtain ⟨rfl, hI2⟩ := hk2 r2 h2 q2
  show Run _ _ _ _ _ _ _ [.int v, .int v] _ _
  exact Run.icmp_eq d_La_law_465 (fun _ => kk h2 hI2) (fun z => absurd rfl z)
theorem l_tilts (hI : InvH i h) (hlt : 6 * i + 6 ≤ X.1) (hL : X.1 ≤ 3072) (kk : ∀ h2, InvH (i + 1) h2 → Run X 41 0 0 M_La_law 1093 [some (.ref 0), some (.ref 1), some (.ref 44), some (.int (nI (6 * i)))] [] h2 QL) : Run X 41 0 0 M_La_law 470 [some (.ref 0), some (.ref 1), some (.ref 44), some (.int (nI (6 * i)))] [] h QL := by
  obtain ⟨⟨fs, hfs⟩, v, Q1, hc1, hk1⟩ := pr_tilts (X := X) (N := i) (x := X.2 (6 * i + 1)) (y := X.2 (6 * i + 2)) (by omega) h hI
  refine Run.aload_n d_La_law_470 rfl ?_
  refine Run.aload_n d_La_law_471 rfl ?_
  refine Run.iload_n d_La_law_472 rfl ?_
  refine Run.iconst (v := nI 1) d_La_law_473 ic_1 ?_
  refine Run.iadd_n d_La_law_474 ?_
  refine Run.sld_n d_La_law_475 (by omega) (by omega) ?_
  refine Run.aload_n d_La_law_476 rfl ?_
  refine Run.iload_n d_La_law_477 rfl ?_
  refine Run.iconst (v := nI 2) d_La_law_478 ic_2 ?_
  refine Run.iadd_n d_La_law_479 ?_
  refine Run.sld_n d_La_law_480 (by omega) (by omega) ?_
  refine Run.V2 d_La_law_481 lk_La_66 cm_PM_tilts iv_PM_tilts rfl hfs (Nat.le_of_ble_eq_true rfl) (Nat.le_of_ble_eq_true rfl) hc1 (fun r1 h1 q1 => ?_)
  obtain ⟨rfl, ⟨fs2, hfs2⟩, Q2, hc2, hk2⟩ := hk1 r1 h1 q1
  show Run _ _ _ _ _ _ _ [.int v] _ _
  refine Run.aload_n d_La_law_484 rfl ?_
  refine Run.aload_n d_La_law_485 rfl ?_
  refine Run.iload_n d_La_law_486 rfl ?_
  refine Run.iconst (v := nI 1) d_La_law_487 ic_1 ?_
  refine Run.iadd_n d_La_law_488 ?_
  refine Run.sld_n d_La_law_489 (by omega) (by omega) ?_
  refine Run.aload_n d_La_law_490 rfl ?_
  refine Run.iload_n d_La_law_491 rfl ?_
  refine Run.iconst (v := nI 2) d_La_law_492 ic_2 ?_
  refine Run.iadd_n d_La_law_493 ?_
  refine Run.sld_n d_La_law_494 (by omega) (by omega) ?_
  refine Run.V2 d_La_law_495 lk_La_69 cm_Rf_tilts iv_Rf_tilts rfl hfs2 (Nat.le_of_ble_eq_true rfl) (Nat.le_of_ble_eq_true rfl) hc2 (fun r2 h2 q2 => ?_)
  obtain ⟨rfl, hI2⟩ := hk2 r2 h2 q2
  show Run _ _ _ _ _ _ _ [.int v, .int v] _ _
  exact Run.icmp_eq d_La_law_498 (fun _ => kk h2 hI2) (fun z => absurd rfl z)
theorem l_finds (hI : InvH i h) (hlt : 6 * i + 6 ≤ X.1) (hL : X.1 ≤ 3072) (kk : ∀ h2, InvH (i + 1) h2 → Run X 41 0 0 M_La_law 1093 [some (.ref 0), some (.ref 1), some (.ref 44), some (.int (nI (6 * i)))] [] h2 QL) : Run X 41 0 0 M_La_law 503 [some (.ref 0), some (.ref 1), some (.ref 44), some (.int (nI (6 * i)))] [] h QL := by
  obtain ⟨⟨fs, hfs⟩, v, Q1, hc1, hk1⟩ := pr_finds (X := X) (N := i) (x := X.2 (6 * i + 1)) (y := X.2 (6 * i + 2)) (by omega) h hI
  refine Run.aload_n d_La_law_503 rfl ?_
  refine Run.aload_n d_La_law_504 rfl ?_
  refine Run.iload_n d_La_law_505 rfl ?_
  refine Run.iconst (v := nI 1) d_La_law_506 ic_1 ?_
  refine Run.iadd_n d_La_law_507 ?_
  refine Run.sld_n d_La_law_508 (by omega) (by omega) ?_
  refine Run.aload_n d_La_law_509 rfl ?_
  refine Run.iload_n d_La_law_510 rfl ?_
  refine Run.iconst (v := nI 2) d_La_law_511 ic_2 ?_
  refine Run.iadd_n d_La_law_512 ?_
  refine Run.sld_n d_La_law_513 (by omega) (by omega) ?_
  refine Run.V2 d_La_law_514 lk_La_70 cm_PM_finds iv_PM_finds rfl hfs (Nat.le_of_ble_eq_true rfl) (Nat.le_of_ble_eq_true rfl) hc1 (fun r1 h1 q1 => ?_)
  obtain ⟨rfl, ⟨fs2, hfs2⟩, Q2, hc2, hk2⟩ := hk1 r1 h1 q1
  show Run _ _ _ _ _ _ _ [.int v] _ _
  refine Run.aload_n d_La_law_517 rfl ?_
  refine Run.aload_n d_La_law_518 rfl ?_
  refine Run.iload_n d_La_law_519 rfl ?_
  refine Run.iconst (v := nI 1) d_La_law_520 ic_1 ?_
  refine Run.iadd_n d_La_law_521 ?_
  refine Run.sld_n d_La_law_522 (by omega) (by omega) ?_
  refine Run.aload_n d_La_law_523 rfl ?_
  refine Run.iload_n d_La_law_524 rfl ?_
  refine Run.iconst (v := nI 2) d_La_law_525 ic_2 ?_
  refine Run.iadd_n d_La_law_526 ?_
  refine Run.sld_n d_La_law_527 (by omega) (by omega) ?_
  refine Run.V2 d_La_law_528 lk_La_73 cm_Rf_finds iv_Rf_finds rfl hfs2 (Nat.le_of_ble_eq_true rfl) (Nat.le_of_ble_eq_true rfl) hc2 (fun r2 h2 q2 => ?_)
  obtain ⟨rfl, hI2⟩ := hk2 r2 h2 q2
  show Run _ _ _ _ _ _ _ [.int v, .int v] _ _
  exact Run.icmp_eq d_La_law_531 (fun _ => kk h2 hI2) (fun z => absurd rfl z)
theorem l_all (hI : InvH i h) (hlt : 6 * i + 6 ≤ X.1) (hL : X.1 ≤ 3072) (kk : ∀ h2, InvH (i + 1) h2 → Run X 41 0 0 M_La_law 1093 [some (.ref 0), some (.ref 1), some (.ref 44), some (.int (nI (6 * i)))] [] h2 QL) : Run X 41 0 0 M_La_law 536 [some (.ref 0), some (.ref 1), some (.ref 44), some (.int (nI (6 * i)))] [] h QL := by
  obtain ⟨⟨fs, hfs⟩, v, Q1, hc1, hk1⟩ := pr_all (X := X) (N := i) (x := X.2 (6 * i + 1)) (by omega) h hI
  refine Run.aload_n d_La_law_536 rfl ?_
  refine Run.aload_n d_La_law_537 rfl ?_
  refine Run.iload_n d_La_law_538 rfl ?_
  refine Run.iconst (v := nI 1) d_La_law_539 ic_1 ?_
  refine Run.iadd_n d_La_law_540 ?_
  refine Run.sld_n d_La_law_541 (by omega) (by omega) ?_
  refine Run.V1 d_La_law_542 lk_La_74 cm_PM_all iv_PM_all rfl hfs (Nat.le_of_ble_eq_true rfl) (Nat.le_of_ble_eq_true rfl) hc1 (fun r1 h1 q1 => ?_)
  obtain ⟨rfl, ⟨fs2, hfs2⟩, Q2, hc2, hk2⟩ := hk1 r1 h1 q1
  show Run _ _ _ _ _ _ _ [.int v] _ _
  refine Run.aload_n d_La_law_545 rfl ?_
  refine Run.aload_n d_La_law_546 rfl ?_
  refine Run.iload_n d_La_law_547 rfl ?_
  refine Run.iconst (v := nI 1) d_La_law_548 ic_1 ?_
  refine Run.iadd_n d_La_law_549 ?_
  refine Run.sld_n d_La_law_550 (by omega) (by omega) ?_
  refine Run.V1 d_La_law_551 lk_La_77 cm_Rf_all iv_Rf_all rfl hfs2 (Nat.le_of_ble_eq_true rfl) (Nat.le_of_ble_eq_true rfl) hc2 (fun r2 h2 q2 => ?_)
  obtain ⟨rfl, hI2⟩ := hk2 r2 h2 q2
  show Run _ _ _ _ _ _ _ [.int v, .int v] _ _
  exact Run.icmp_eq d_La_law_554 (fun _ => kk h2 hI2) (fun z => absurd rfl z)
theorem l_when (hI : InvH i h) (hlt : 6 * i + 6 ≤ X.1) (hL : X.1 ≤ 3072) (kk : ∀ h2, InvH (i + 1) h2 → Run X 41 0 0 M_La_law 1093 [some (.ref 0), some (.ref 1), some (.ref 44), some (.int (nI (6 * i)))] [] h2 QL) : Run X 41 0 0 M_La_law 559 [some (.ref 0), some (.ref 1), some (.ref 44), some (.int (nI (6 * i)))] [] h QL := by
  obtain ⟨⟨fs, hfs⟩, v, Q1, hc1, hk1⟩ := pr_when (X := X) (N := i) (x := X.2 (6 * i + 1)) (y := X.2 (6 * i + 2)) (by omega) h hI
  refine Run.aload_n d_La_law_559 rfl ?_
  refine Run.aload_n d_La_law_560 rfl ?_
  refine Run.iload_n d_La_law_561 rfl ?_
  refine Run.iconst (v := nI 1) d_La_law_562 ic_1 ?_
  refine Run.iadd_n d_La_law_563 ?_
  refine Run.sld_n d_La_law_564 (by omega) (by omega) ?_
  refine Run.aload_n d_La_law_565 rfl ?_
  refine Run.iload_n d_La_law_566 rfl ?_
  refine Run.iconst (v := nI 2) d_La_law_567 ic_2 ?_
  refine Run.iadd_n d_La_law_568 ?_
  refine Run.sld_n d_La_law_569 (by omega) (by omega) ?_
  refine Run.V2 d_La_law_570 lk_La_78 cm_PM_when iv_PM_when rfl hfs (Nat.le_of_ble_eq_true rfl) (Nat.le_of_ble_eq_true rfl) hc1 (fun r1 h1 q1 => ?_)
  obtain ⟨rfl, ⟨fs2, hfs2⟩, Q2, hc2, hk2⟩ := hk1 r1 h1 q1
  show Run _ _ _ _ _ _ _ [.int v] _ _
  refine Run.aload_n d_La_law_573 rfl ?_
  refine Run.aload_n d_La_law_574 rfl ?_
  refine Run.iload_n d_La_law_575 rfl ?_
  refine Run.iconst (v := nI 1) d_La_law_576 ic_1 ?_
  refine Run.iadd_n d_La_law_577 ?_
  refine Run.sld_n d_La_law_578 (by omega) (by omega) ?_
  refine Run.aload_n d_La_law_579 rfl ?_
  refine Run.iload_n d_La_law_580 rfl ?_
  refine Run.iconst (v := nI 2) d_La_law_581 ic_2 ?_
  refine Run.iadd_n d_La_law_582 ?_
  refine Run.sld_n d_La_law_583 (by omega) (by omega) ?_
  refine Run.V2 d_La_law_584 lk_La_81 cm_Rf_when iv_Rf_when rfl hfs2 (Nat.le_of_ble_eq_true rfl) (Nat.le_of_ble_eq_true rfl) hc2 (fun r2 h2 q2 => ?_)
  obtain ⟨rfl, hI2⟩ := hk2 r2 h2 q2
  show Run _ _ _ _ _ _ _ [.int v, .int v] _ _
  exact Run.icmp_eq d_La_law_587 (fun _ => kk h2 hI2) (fun z => absurd rfl z)
theorem l_mothers (hI : InvH i h) (hlt : 6 * i + 6 ≤ X.1) (hL : X.1 ≤ 3072) (kk : ∀ h2, InvH (i + 1) h2 → Run X 41 0 0 M_La_law 1093 [some (.ref 0), some (.ref 1), some (.ref 44), some (.int (nI (6 * i)))] [] h2 QL) : Run X 41 0 0 M_La_law 592 [some (.ref 0), some (.ref 1), some (.ref 44), some (.int (nI (6 * i)))] [] h QL := by
  obtain ⟨⟨fs, hfs⟩, v, Q1, hc1, hk1⟩ := pr_mothers (X := X) (N := i)  (by omega) h hI
  refine Run.aload_n d_La_law_592 rfl ?_
  refine Run.V0 d_La_law_593 lk_La_82 cm_PM_mothers iv_PM_mothers rfl hfs (Nat.le_of_ble_eq_true rfl) (Nat.le_of_ble_eq_true rfl) hc1 (fun r1 h1 q1 => ?_)
  obtain ⟨rfl, ⟨fs2, hfs2⟩, Q2, hc2, hk2⟩ := hk1 r1 h1 q1
  show Run _ _ _ _ _ _ _ [.int v] _ _
  refine Run.aload_n d_La_law_596 rfl ?_
  refine Run.V0 d_La_law_597 lk_La_85 cm_Rf_mothers iv_Rf_mothers rfl hfs2 (Nat.le_of_ble_eq_true rfl) (Nat.le_of_ble_eq_true rfl) hc2 (fun r2 h2 q2 => ?_)
  obtain ⟨rfl, hI2⟩ := hk2 r2 h2 q2
  show Run _ _ _ _ _ _ _ [.int v, .int v] _ _
  exact Run.icmp_eq d_La_law_600 (fun _ => kk h2 hI2) (fun z => absurd rfl z)
theorem l_giving (hI : InvH i h) (hlt : 6 * i + 6 ≤ X.1) (hL : X.1 ≤ 3072) (kk : ∀ h2, InvH (i + 1) h2 → Run X 41 0 0 M_La_law 1093 [some (.ref 0), some (.ref 1), some (.ref 44), some (.int (nI (6 * i)))] [] h2 QL) : Run X 41 0 0 M_La_law 605 [some (.ref 0), some (.ref 1), some (.ref 44), some (.int (nI (6 * i)))] [] h QL := by
  by_cases hz : X.2 (6 * i + 1) = 0
  · obtain ⟨⟨fs, hfs⟩, v, Q1, hc1, hk1⟩ := pr_giving (X := X) (N := i) (u := false) (by omega) h hI
    refine Run.aload_n d_La_law_605 rfl ?_
    refine Run.aload_n d_La_law_606 rfl ?_
    refine Run.iload_n d_La_law_607 rfl ?_
    refine Run.iconst (v := nI 1) d_La_law_608 ic_1 ?_
    refine Run.iadd_n d_La_law_609 ?_
    refine Run.sld_n d_La_law_610 (by omega) (by omega) ?_
    refine Run.if_eq d_La_law_611 (fun _ => ?_) (fun z => absurd hz z)
    refine Run.iconst (v := nI 0) d_La_law_618 ic_0 ?_
    refine Run.V1 d_La_law_619 lk_La_86 cm_PM_giving iv_PM_giving rfl hfs (Nat.le_of_ble_eq_true rfl) (Nat.le_of_ble_eq_true rfl) hc1 (fun r1 h1 q1 => ?_)
    obtain ⟨rfl, ⟨fs2, hfs2⟩, Q2, hc2, hk2⟩ := hk1 r1 h1 q1
    show Run _ _ _ _ _ _ _ [.int v] _ _
    refine Run.aload_n d_La_law_622 rfl ?_
    refine Run.aload_n d_La_law_623 rfl ?_
    refine Run.iload_n d_La_law_624 rfl ?_
    refine Run.iconst (v := nI 1) d_La_law_625 ic_1 ?_
    refine Run.iadd_n d_La_law_626 ?_
    refine Run.sld_n d_La_law_627 (by omega) (by omega) ?_
    refine Run.if_eq d_La_law_628 (fun _ => ?_) (fun z => absurd hz z)
    refine Run.iconst (v := nI 0) d_La_law_635 ic_0 ?_
    refine Run.V1 d_La_law_636 lk_La_90 cm_Rf_giving iv_Rf_giving rfl hfs2 (Nat.le_of_ble_eq_true rfl) (Nat.le_of_ble_eq_true rfl) hc2 (fun r2 h2 q2 => ?_)
    obtain ⟨rfl, hI2⟩ := hk2 r2 h2 q2
    show Run _ _ _ _ _ _ _ [.int v, .int v] _ _
    exact Run.icmp_eq d_La_law_639 (fun _ => kk h2 hI2) (fun z => absurd rfl z)
  · obtain ⟨⟨fs, hfs⟩, v, Q1, hc1, hk1⟩ := pr_giving (X := X) (N := i) (u := true) (by omega) h hI
    refine Run.aload_n d_La_law_605 rfl ?_
    refine Run.aload_n d_La_law_606 rfl ?_
    refine Run.iload_n d_La_law_607 rfl ?_
    refine Run.iconst (v := nI 1) d_La_law_608 ic_1 ?_
    refine Run.iadd_n d_La_law_609 ?_
    refine Run.sld_n d_La_law_610 (by omega) (by omega) ?_
    refine Run.if_eq d_La_law_611 (fun z => absurd z hz) (fun _ => ?_)
    refine Run.iconst (v := nI 1) d_La_law_614 ic_1 ?_
    refine Run.goto d_La_law_615 ?_
    refine Run.V1 d_La_law_619 lk_La_86 cm_PM_giving iv_PM_giving rfl hfs (Nat.le_of_ble_eq_true rfl) (Nat.le_of_ble_eq_true rfl) hc1 (fun r1 h1 q1 => ?_)
    obtain ⟨rfl, ⟨fs2, hfs2⟩, Q2, hc2, hk2⟩ := hk1 r1 h1 q1
    show Run _ _ _ _ _ _ _ [.int v] _ _
    refine Run.aload_n d_La_law_622 rfl ?_
    refine Run.aload_n d_La_law_623 rfl ?_
    refine Run.iload_n d_La_law_624 rfl ?_
    refine Run.iconst (v := nI 1) d_La_law_625 ic_1 ?_
    refine Run.iadd_n d_La_law_626 ?_
    refine Run.sld_n d_La_law_627 (by omega) (by omega) ?_
    refine Run.if_eq d_La_law_628 (fun z => absurd z hz) (fun _ => ?_)
    refine Run.iconst (v := nI 1) d_La_law_631 ic_1 ?_
    refine Run.goto d_La_law_632 ?_
    refine Run.V1 d_La_law_636 lk_La_90 cm_Rf_giving iv_Rf_giving rfl hfs2 (Nat.le_of_ble_eq_true rfl) (Nat.le_of_ble_eq_true rfl) hc2 (fun r2 h2 q2 => ?_)
    obtain ⟨rfl, hI2⟩ := hk2 r2 h2 q2
    show Run _ _ _ _ _ _ _ [.int v, .int v] _ _
    exact Run.icmp_eq d_La_law_639 (fun _ => kk h2 hI2) (fun z => absurd rfl z)
theorem l_judge (hI : InvH i h) (hlt : 6 * i + 6 ≤ X.1) (hL : X.1 ≤ 3072) (kk : ∀ h2, InvH (i + 1) h2 → Run X 41 0 0 M_La_law 1093 [some (.ref 0), some (.ref 1), some (.ref 44), some (.int (nI (6 * i)))] [] h2 QL) : Run X 41 0 0 M_La_law 644 [some (.ref 0), some (.ref 1), some (.ref 44), some (.int (nI (6 * i)))] [] h QL := by
  obtain ⟨⟨fs, hfs⟩, v, Q1, hc1, hk1⟩ := pr_judge (X := X) (N := i) (x := X.2 (6 * i + 1)) (row := ((X.2 (6 * i + 2)).toInt64 <<< ((nI 32).toInt64 &&& 63)) ||| ((X.2 (6 * i + 3)).toInt64 &&& 4294967295)) (by omega) h hI
  refine Run.aload_n d_La_law_644 rfl ?_
  refine Run.aload_n d_La_law_645 rfl ?_
  refine Run.iload_n d_La_law_646 rfl ?_
  refine Run.iconst (v := nI 1) d_La_law_647 ic_1 ?_
  refine Run.iadd_n d_La_law_648 ?_
  refine Run.sld_n d_La_law_649 (by omega) (by omega) ?_
  refine Run.aload_n d_La_law_650 rfl ?_
  refine Run.iload_n d_La_law_651 rfl ?_
  refine Run.iconst (v := nI 2) d_La_law_652 ic_2 ?_
  refine Run.iadd_n d_La_law_653 ?_
  refine Run.sld_n d_La_law_654 (by omega) (by omega) ?_
  refine Run.i2l d_La_law_655 ?_
  refine Run.bipush (v := nI 32) d_La_law_656 bp_32 ?_
  refine Run.lshl d_La_law_658 ?_
  refine Run.aload_n d_La_law_659 rfl ?_
  refine Run.iload_n d_La_law_660 rfl ?_
  refine Run.iconst (v := nI 3) d_La_law_661 ic_3 ?_
  refine Run.iadd_n d_La_law_662 ?_
  refine Run.sld_n d_La_law_663 (by omega) (by omega) ?_
  refine Run.i2l d_La_law_664 ?_
  refine Run.ldc2 d_La_law_665 kn_La_91 ?_
  refine Run.land d_La_law_668 ?_
  refine Run.lor d_La_law_669 ?_
  refine Run.V2 d_La_law_670 lk_La_93 cm_PM_judge iv_PM_judge rfl hfs (Nat.le_of_ble_eq_true rfl) (Nat.le_of_ble_eq_true rfl) hc1 (fun r1 h1 q1 => ?_)
  obtain ⟨rfl, ⟨fs2, hfs2⟩, Q2, hc2, hk2⟩ := hk1 r1 h1 q1
  show Run _ _ _ _ _ _ _ [.int v] _ _
  refine Run.aload_n d_La_law_673 rfl ?_
  refine Run.aload_n d_La_law_674 rfl ?_
  refine Run.iload_n d_La_law_675 rfl ?_
  refine Run.iconst (v := nI 1) d_La_law_676 ic_1 ?_
  refine Run.iadd_n d_La_law_677 ?_
  refine Run.sld_n d_La_law_678 (by omega) (by omega) ?_
  refine Run.aload_n d_La_law_679 rfl ?_
  refine Run.iload_n d_La_law_680 rfl ?_
  refine Run.iconst (v := nI 2) d_La_law_681 ic_2 ?_
  refine Run.iadd_n d_La_law_682 ?_
  refine Run.sld_n d_La_law_683 (by omega) (by omega) ?_
  refine Run.i2l d_La_law_684 ?_
  refine Run.bipush (v := nI 32) d_La_law_685 bp_32 ?_
  refine Run.lshl d_La_law_687 ?_
  refine Run.aload_n d_La_law_688 rfl ?_
  refine Run.iload_n d_La_law_689 rfl ?_
  refine Run.iconst (v := nI 3) d_La_law_690 ic_3 ?_
  refine Run.iadd_n d_La_law_691 ?_
  refine Run.sld_n d_La_law_692 (by omega) (by omega) ?_
  refine Run.i2l d_La_law_693 ?_
  refine Run.ldc2 d_La_law_694 kn_La_91 ?_
  refine Run.land d_La_law_697 ?_
  refine Run.lor d_La_law_698 ?_
  refine Run.V2 d_La_law_699 lk_La_97 cm_Rf_judge iv_Rf_judge rfl hfs2 (Nat.le_of_ble_eq_true rfl) (Nat.le_of_ble_eq_true rfl) hc2 (fun r2 h2 q2 => ?_)
  obtain ⟨rfl, hI2⟩ := hk2 r2 h2 q2
  show Run _ _ _ _ _ _ _ [.int v, .int v] _ _
  exact Run.icmp_eq d_La_law_702 (fun _ => kk h2 hI2) (fun z => absurd rfl z)
theorem l_share (hI : InvH i h) (hlt : 6 * i + 6 ≤ X.1) (hL : X.1 ≤ 3072) (kk : ∀ h2, InvH (i + 1) h2 → Run X 41 0 0 M_La_law 1093 [some (.ref 0), some (.ref 1), some (.ref 44), some (.int (nI (6 * i)))] [] h2 QL) : Run X 41 0 0 M_La_law 707 [some (.ref 0), some (.ref 1), some (.ref 44), some (.int (nI (6 * i)))] [] h QL := by
  by_cases hz : X.2 (6 * i + 2) = 0
  · obtain ⟨⟨fs, hfs⟩, v, Q1, hc1, hk1⟩ := pr_share (X := X) (N := i) (x := X.2 (6 * i + 1)) (u := false) (by omega) h hI
    refine Run.aload_n d_La_law_707 rfl ?_
    refine Run.aload_n d_La_law_708 rfl ?_
    refine Run.iload_n d_La_law_709 rfl ?_
    refine Run.iconst (v := nI 1) d_La_law_710 ic_1 ?_
    refine Run.iadd_n d_La_law_711 ?_
    refine Run.sld_n d_La_law_712 (by omega) (by omega) ?_
    refine Run.aload_n d_La_law_713 rfl ?_
    refine Run.iload_n d_La_law_714 rfl ?_
    refine Run.iconst (v := nI 2) d_La_law_715 ic_2 ?_
    refine Run.iadd_n d_La_law_716 ?_
    refine Run.sld_n d_La_law_717 (by omega) (by omega) ?_
    refine Run.if_eq d_La_law_718 (fun _ => ?_) (fun z => absurd hz z)
    refine Run.iconst (v := nI 0) d_La_law_725 ic_0 ?_
    refine Run.V2 d_La_law_726 lk_La_98 cm_PM_share iv_PM_share rfl hfs (Nat.le_of_ble_eq_true rfl) (Nat.le_of_ble_eq_true rfl) hc1 (fun r1 h1 q1 => ?_)
    obtain ⟨rfl, ⟨fs2, hfs2⟩, Q2, hc2, hk2⟩ := hk1 r1 h1 q1
    show Run _ _ _ _ _ _ _ [.int v] _ _
    refine Run.aload_n d_La_law_729 rfl ?_
    refine Run.aload_n d_La_law_730 rfl ?_
    refine Run.iload_n d_La_law_731 rfl ?_
    refine Run.iconst (v := nI 1) d_La_law_732 ic_1 ?_
    refine Run.iadd_n d_La_law_733 ?_
    refine Run.sld_n d_La_law_734 (by omega) (by omega) ?_
    refine Run.aload_n d_La_law_735 rfl ?_
    refine Run.iload_n d_La_law_736 rfl ?_
    refine Run.iconst (v := nI 2) d_La_law_737 ic_2 ?_
    refine Run.iadd_n d_La_law_738 ?_
    refine Run.sld_n d_La_law_739 (by omega) (by omega) ?_
    refine Run.if_eq d_La_law_740 (fun _ => ?_) (fun z => absurd hz z)
    refine Run.iconst (v := nI 0) d_La_law_747 ic_0 ?_
    refine Run.V2 d_La_law_748 lk_La_101 cm_Rf_share iv_Rf_share rfl hfs2 (Nat.le_of_ble_eq_true rfl) (Nat.le_of_ble_eq_true rfl) hc2 (fun r2 h2 q2 => ?_)
    obtain ⟨rfl, hI2⟩ := hk2 r2 h2 q2
    show Run _ _ _ _ _ _ _ [.int v, .int v] _ _
    exact Run.icmp_eq d_La_law_751 (fun _ => kk h2 hI2) (fun z => absurd rfl z)
  · obtain ⟨⟨fs, hfs⟩, v, Q1, hc1, hk1⟩ := pr_share (X := X) (N := i) (x := X.2 (6 * i + 1)) (u := true) (by omega) h hI
    refine Run.aload_n d_La_law_707 rfl ?_
    refine Run.aload_n d_La_law_708 rfl ?_
    refine Run.iload_n d_La_law_709 rfl ?_
    refine Run.iconst (v := nI 1) d_La_law_710 ic_1 ?_
    refine Run.iadd_n d_La_law_711 ?_
    refine Run.sld_n d_La_law_712 (by omega) (by omega) ?_
    refine Run.aload_n d_La_law_713 rfl ?_
    refine Run.iload_n d_La_law_714 rfl ?_
    refine Run.iconst (v := nI 2) d_La_law_715 ic_2 ?_
    refine Run.iadd_n d_La_law_716 ?_
    refine Run.sld_n d_La_law_717 (by omega) (by omega) ?_
    refine Run.if_eq d_La_law_718 (fun z => absurd z hz) (fun _ => ?_)
    refine Run.iconst (v := nI 1) d_La_law_721 ic_1 ?_
    refine Run.goto d_La_law_722 ?_
    refine Run.V2 d_La_law_726 lk_La_98 cm_PM_share iv_PM_share rfl hfs (Nat.le_of_ble_eq_true rfl) (Nat.le_of_ble_eq_true rfl) hc1 (fun r1 h1 q1 => ?_)
    obtain ⟨rfl, ⟨fs2, hfs2⟩, Q2, hc2, hk2⟩ := hk1 r1 h1 q1
    show Run _ _ _ _ _ _ _ [.int v] _ _
    refine Run.aload_n d_La_law_729 rfl ?_
    refine Run.aload_n d_La_law_730 rfl ?_
    refine Run.iload_n d_La_law_731 rfl ?_
    refine Run.iconst (v := nI 1) d_La_law_732 ic_1 ?_
    refine Run.iadd_n d_La_law_733 ?_
    refine Run.sld_n d_La_law_734 (by omega) (by omega) ?_
    refine Run.aload_n d_La_law_735 rfl ?_
    refine Run.iload_n d_La_law_736 rfl ?_
    refine Run.iconst (v := nI 2) d_La_law_737 ic_2 ?_
    refine Run.iadd_n d_La_law_738 ?_
    refine Run.sld_n d_La_law_739 (by omega) (by omega) ?_
    refine Run.if_eq d_La_law_740 (fun z => absurd z hz) (fun _ => ?_)
    refine Run.iconst (v := nI 1) d_La_law_743 ic_1 ?_
    refine Run.goto d_La_law_744 ?_
    refine Run.V2 d_La_law_748 lk_La_101 cm_Rf_share iv_Rf_share rfl hfs2 (Nat.le_of_ble_eq_true rfl) (Nat.le_of_ble_eq_true rfl) hc2 (fun r2 h2 q2 => ?_)
    obtain ⟨rfl, hI2⟩ := hk2 r2 h2 q2
    show Run _ _ _ _ _ _ _ [.int v, .int v] _ _
    exact Run.icmp_eq d_La_law_751 (fun _ => kk h2 hI2) (fun z => absurd rfl z)
theorem l_turn (hI : InvH i h) (hlt : 6 * i + 6 ≤ X.1) (hL : X.1 ≤ 3072) (kk : ∀ h2, InvH (i + 1) h2 → Run X 41 0 0 M_La_law 1093 [some (.ref 0), some (.ref 1), some (.ref 44), some (.int (nI (6 * i)))] [] h2 QL) : Run X 41 0 0 M_La_law 756 [some (.ref 0), some (.ref 1), some (.ref 44), some (.int (nI (6 * i)))] [] h QL := by
  obtain ⟨⟨fs, hfs⟩, v, Q1, hc1, hk1⟩ := pr_turn (X := X) (N := i) (x := X.2 (6 * i + 1)) (y := X.2 (6 * i + 2)) (by omega) h hI
  refine Run.aload_n d_La_law_756 rfl ?_
  refine Run.aload_n d_La_law_757 rfl ?_
  refine Run.iload_n d_La_law_758 rfl ?_
  refine Run.iconst (v := nI 1) d_La_law_759 ic_1 ?_
  refine Run.iadd_n d_La_law_760 ?_
  refine Run.sld_n d_La_law_761 (by omega) (by omega) ?_
  refine Run.aload_n d_La_law_762 rfl ?_
  refine Run.iload_n d_La_law_763 rfl ?_
  refine Run.iconst (v := nI 2) d_La_law_764 ic_2 ?_
  refine Run.iadd_n d_La_law_765 ?_
  refine Run.sld_n d_La_law_766 (by omega) (by omega) ?_
  refine Run.V2 d_La_law_767 lk_La_102 cm_PM_turn iv_PM_turn rfl hfs (Nat.le_of_ble_eq_true rfl) (Nat.le_of_ble_eq_true rfl) hc1 (fun r1 h1 q1 => ?_)
  obtain ⟨rfl, ⟨fs2, hfs2⟩, Q2, hc2, hk2⟩ := hk1 r1 h1 q1
  show Run _ _ _ _ _ _ _ [.int v] _ _
  refine Run.aload_n d_La_law_770 rfl ?_
  refine Run.aload_n d_La_law_771 rfl ?_
  refine Run.iload_n d_La_law_772 rfl ?_
  refine Run.iconst (v := nI 1) d_La_law_773 ic_1 ?_
  refine Run.iadd_n d_La_law_774 ?_
  refine Run.sld_n d_La_law_775 (by omega) (by omega) ?_
  refine Run.aload_n d_La_law_776 rfl ?_
  refine Run.iload_n d_La_law_777 rfl ?_
  refine Run.iconst (v := nI 2) d_La_law_778 ic_2 ?_
  refine Run.iadd_n d_La_law_779 ?_
  refine Run.sld_n d_La_law_780 (by omega) (by omega) ?_
  refine Run.V2 d_La_law_781 lk_La_105 cm_Rf_turn iv_Rf_turn rfl hfs2 (Nat.le_of_ble_eq_true rfl) (Nat.le_of_ble_eq_true rfl) hc2 (fun r2 h2 q2 => ?_)
  obtain ⟨rfl, hI2⟩ := hk2 r2 h2 q2
  show Run _ _ _ _ _ _ _ [.int v, .int v] _ _
  exact Run.icmp_eq d_La_law_784 (fun _ => kk h2 hI2) (fun z => absurd rfl z)
theorem l_unturn (hI : InvH i h) (hlt : 6 * i + 6 ≤ X.1) (hL : X.1 ≤ 3072) (kk : ∀ h2, InvH (i + 1) h2 → Run X 41 0 0 M_La_law 1093 [some (.ref 0), some (.ref 1), some (.ref 44), some (.int (nI (6 * i)))] [] h2 QL) : Run X 41 0 0 M_La_law 789 [some (.ref 0), some (.ref 1), some (.ref 44), some (.int (nI (6 * i)))] [] h QL := by
  obtain ⟨⟨fs, hfs⟩, v, Q1, hc1, hk1⟩ := pr_unturn (X := X) (N := i)  (by omega) h hI
  refine Run.aload_n d_La_law_789 rfl ?_
  refine Run.V0 d_La_law_790 lk_La_106 cm_PM_unturn iv_PM_unturn rfl hfs (Nat.le_of_ble_eq_true rfl) (Nat.le_of_ble_eq_true rfl) hc1 (fun r1 h1 q1 => ?_)
  obtain ⟨rfl, ⟨fs2, hfs2⟩, Q2, hc2, hk2⟩ := hk1 r1 h1 q1
  show Run _ _ _ _ _ _ _ [.int v] _ _
  refine Run.aload_n d_La_law_793 rfl ?_
  refine Run.V0 d_La_law_794 lk_La_109 cm_Rf_unturn iv_Rf_unturn rfl hfs2 (Nat.le_of_ble_eq_true rfl) (Nat.le_of_ble_eq_true rfl) hc2 (fun r2 h2 q2 => ?_)
  obtain ⟨rfl, hI2⟩ := hk2 r2 h2 q2
  show Run _ _ _ _ _ _ _ [.int v, .int v] _ _
  exact Run.icmp_eq d_La_law_797 (fun _ => kk h2 hI2) (fun z => absurd rfl z)
theorem l_may (hI : InvH i h) (hlt : 6 * i + 6 ≤ X.1) (hL : X.1 ≤ 3072) (kk : ∀ h2, InvH (i + 1) h2 → Run X 41 0 0 M_La_law 1093 [some (.ref 0), some (.ref 1), some (.ref 44), some (.int (nI (6 * i)))] [] h2 QL) : Run X 41 0 0 M_La_law 802 [some (.ref 0), some (.ref 1), some (.ref 44), some (.int (nI (6 * i)))] [] h QL := by
  obtain ⟨⟨fs, hfs⟩, v, Q1, hc1, hk1⟩ := pr_may (X := X) (N := i) (x := X.2 (6 * i + 1)) (by omega) h hI
  refine Run.aload_n d_La_law_802 rfl ?_
  refine Run.aload_n d_La_law_803 rfl ?_
  refine Run.iload_n d_La_law_804 rfl ?_
  refine Run.iconst (v := nI 1) d_La_law_805 ic_1 ?_
  refine Run.iadd_n d_La_law_806 ?_
  refine Run.sld_n d_La_law_807 (by omega) (by omega) ?_
  refine Run.V1 d_La_law_808 lk_La_110 cm_PM_may iv_PM_may rfl hfs (Nat.le_of_ble_eq_true rfl) (Nat.le_of_ble_eq_true rfl) hc1 (fun r1 h1 q1 => ?_)
  obtain ⟨rfl, ⟨fs2, hfs2⟩, Q2, hc2, hk2⟩ := hk1 r1 h1 q1
  show Run _ _ _ _ _ _ _ [.int v] _ _
  refine Run.aload_n d_La_law_811 rfl ?_
  refine Run.aload_n d_La_law_812 rfl ?_
  refine Run.iload_n d_La_law_813 rfl ?_
  refine Run.iconst (v := nI 1) d_La_law_814 ic_1 ?_
  refine Run.iadd_n d_La_law_815 ?_
  refine Run.sld_n d_La_law_816 (by omega) (by omega) ?_
  refine Run.V1 d_La_law_817 lk_La_113 cm_Rf_may iv_Rf_may rfl hfs2 (Nat.le_of_ble_eq_true rfl) (Nat.le_of_ble_eq_true rfl) hc2 (fun r2 h2 q2 => ?_)
  obtain ⟨rfl, hI2⟩ := hk2 r2 h2 q2
  show Run _ _ _ _ _ _ _ [.int v, .int v] _ _
  exact Run.icmp_eq d_La_law_820 (fun _ => kk h2 hI2) (fun z => absurd rfl z)
theorem l_next (hI : InvH i h) (hlt : 6 * i + 6 ≤ X.1) (hL : X.1 ≤ 3072) (kk : ∀ h2, InvH (i + 1) h2 → Run X 41 0 0 M_La_law 1093 [some (.ref 0), some (.ref 1), some (.ref 44), some (.int (nI (6 * i)))] [] h2 QL) : Run X 41 0 0 M_La_law 825 [some (.ref 0), some (.ref 1), some (.ref 44), some (.int (nI (6 * i)))] [] h QL := by
  obtain ⟨⟨fs, hfs⟩, v, Q1, hc1, hk1⟩ := pr_next (X := X) (N := i)  (by omega) h hI
  refine Run.aload_n d_La_law_825 rfl ?_
  refine Run.V0 d_La_law_826 lk_La_114 cm_PM_next iv_PM_next rfl hfs (Nat.le_of_ble_eq_true rfl) (Nat.le_of_ble_eq_true rfl) hc1 (fun r1 h1 q1 => ?_)
  obtain ⟨rfl, ⟨fs2, hfs2⟩, Q2, hc2, hk2⟩ := hk1 r1 h1 q1
  show Run _ _ _ _ _ _ _ [.int v] _ _
  refine Run.aload_n d_La_law_829 rfl ?_
  refine Run.V0 d_La_law_830 lk_La_117 cm_Rf_next iv_Rf_next rfl hfs2 (Nat.le_of_ble_eq_true rfl) (Nat.le_of_ble_eq_true rfl) hc2 (fun r2 h2 q2 => ?_)
  obtain ⟨rfl, hI2⟩ := hk2 r2 h2 q2
  show Run _ _ _ _ _ _ _ [.int v, .int v] _ _
  exact Run.icmp_eq d_La_law_833 (fun _ => kk h2 hI2) (fun z => absurd rfl z)
theorem l_rests (hI : InvH i h) (hlt : 6 * i + 6 ≤ X.1) (hL : X.1 ≤ 3072) (kk : ∀ h2, InvH (i + 1) h2 → Run X 41 0 0 M_La_law 1093 [some (.ref 0), some (.ref 1), some (.ref 44), some (.int (nI (6 * i)))] [] h2 QL) : Run X 41 0 0 M_La_law 838 [some (.ref 0), some (.ref 1), some (.ref 44), some (.int (nI (6 * i)))] [] h QL := by
  obtain ⟨⟨fs, hfs⟩, v, Q1, hc1, hk1⟩ := pr_rests (X := X) (N := i) (x := X.2 (6 * i + 1)) (y := X.2 (6 * i + 2)) (a := X.2 (6 * i + 3)) (b := X.2 (6 * i + 4)) (by omega) h hI
  refine Run.aload_n d_La_law_838 rfl ?_
  refine Run.aload_n d_La_law_839 rfl ?_
  refine Run.iload_n d_La_law_840 rfl ?_
  refine Run.iconst (v := nI 1) d_La_law_841 ic_1 ?_
  refine Run.iadd_n d_La_law_842 ?_
  refine Run.sld_n d_La_law_843 (by omega) (by omega) ?_
  refine Run.aload_n d_La_law_844 rfl ?_
  refine Run.iload_n d_La_law_845 rfl ?_
  refine Run.iconst (v := nI 2) d_La_law_846 ic_2 ?_
  refine Run.iadd_n d_La_law_847 ?_
  refine Run.sld_n d_La_law_848 (by omega) (by omega) ?_
  refine Run.aload_n d_La_law_849 rfl ?_
  refine Run.iload_n d_La_law_850 rfl ?_
  refine Run.iconst (v := nI 3) d_La_law_851 ic_3 ?_
  refine Run.iadd_n d_La_law_852 ?_
  refine Run.sld_n d_La_law_853 (by omega) (by omega) ?_
  refine Run.aload_n d_La_law_854 rfl ?_
  refine Run.iload_n d_La_law_855 rfl ?_
  refine Run.iconst (v := nI 4) d_La_law_856 ic_4 ?_
  refine Run.iadd_n d_La_law_857 ?_
  refine Run.sld_n d_La_law_858 (by omega) (by omega) ?_
  refine Run.V4 d_La_law_859 lk_La_118 cm_PM_rests iv_PM_rests rfl hfs (Nat.le_of_ble_eq_true rfl) (Nat.le_of_ble_eq_true rfl) hc1 (fun r1 h1 q1 => ?_)
  obtain ⟨rfl, ⟨fs2, hfs2⟩, Q2, hc2, hk2⟩ := hk1 r1 h1 q1
  show Run _ _ _ _ _ _ _ [.int v] _ _
  refine Run.aload_n d_La_law_862 rfl ?_
  refine Run.aload_n d_La_law_863 rfl ?_
  refine Run.iload_n d_La_law_864 rfl ?_
  refine Run.iconst (v := nI 1) d_La_law_865 ic_1 ?_
  refine Run.iadd_n d_La_law_866 ?_
  refine Run.sld_n d_La_law_867 (by omega) (by omega) ?_
  refine Run.aload_n d_La_law_868 rfl ?_
  refine Run.iload_n d_La_law_869 rfl ?_
  refine Run.iconst (v := nI 2) d_La_law_870 ic_2 ?_
  refine Run.iadd_n d_La_law_871 ?_
  refine Run.sld_n d_La_law_872 (by omega) (by omega) ?_
  refine Run.aload_n d_La_law_873 rfl ?_
  refine Run.iload_n d_La_law_874 rfl ?_
  refine Run.iconst (v := nI 3) d_La_law_875 ic_3 ?_
  refine Run.iadd_n d_La_law_876 ?_
  refine Run.sld_n d_La_law_877 (by omega) (by omega) ?_
  refine Run.aload_n d_La_law_878 rfl ?_
  refine Run.iload_n d_La_law_879 rfl ?_
  refine Run.iconst (v := nI 4) d_La_law_880 ic_4 ?_
  refine Run.iadd_n d_La_law_881 ?_
  refine Run.sld_n d_La_law_882 (by omega) (by omega) ?_
  refine Run.V4 d_La_law_883 lk_La_122 cm_Rf_rests iv_Rf_rests rfl hfs2 (Nat.le_of_ble_eq_true rfl) (Nat.le_of_ble_eq_true rfl) hc2 (fun r2 h2 q2 => ?_)
  obtain ⟨rfl, hI2⟩ := hk2 r2 h2 q2
  show Run _ _ _ _ _ _ _ [.int v, .int v] _ _
  exact Run.icmp_eq d_La_law_886 (fun _ => kk h2 hI2) (fun z => absurd rfl z)
theorem l_glints (hI : InvH i h) (hlt : 6 * i + 6 ≤ X.1) (hL : X.1 ≤ 3072) (kk : ∀ h2, InvH (i + 1) h2 → Run X 41 0 0 M_La_law 1093 [some (.ref 0), some (.ref 1), some (.ref 44), some (.int (nI (6 * i)))] [] h2 QL) : Run X 41 0 0 M_La_law 891 [some (.ref 0), some (.ref 1), some (.ref 44), some (.int (nI (6 * i)))] [] h QL := by
  by_cases hz : X.2 (6 * i + 5) = 0
  · obtain ⟨⟨fs, hfs⟩, v, Q1, hc1, hk1⟩ := pr_glints (X := X) (N := i) (x := X.2 (6 * i + 1)) (y := X.2 (6 * i + 2)) (a := X.2 (6 * i + 3)) (b := X.2 (6 * i + 4)) (u := false) (by omega) h hI
    refine Run.aload_n d_La_law_891 rfl ?_
    refine Run.aload_n d_La_law_892 rfl ?_
    refine Run.iload_n d_La_law_893 rfl ?_
    refine Run.iconst (v := nI 1) d_La_law_894 ic_1 ?_
    refine Run.iadd_n d_La_law_895 ?_
    refine Run.sld_n d_La_law_896 (by omega) (by omega) ?_
    refine Run.aload_n d_La_law_897 rfl ?_
    refine Run.iload_n d_La_law_898 rfl ?_
    refine Run.iconst (v := nI 2) d_La_law_899 ic_2 ?_
    refine Run.iadd_n d_La_law_900 ?_
    refine Run.sld_n d_La_law_901 (by omega) (by omega) ?_
    refine Run.aload_n d_La_law_902 rfl ?_
    refine Run.iload_n d_La_law_903 rfl ?_
    refine Run.iconst (v := nI 3) d_La_law_904 ic_3 ?_
    refine Run.iadd_n d_La_law_905 ?_
    refine Run.sld_n d_La_law_906 (by omega) (by omega) ?_
    refine Run.aload_n d_La_law_907 rfl ?_
    refine Run.iload_n d_La_law_908 rfl ?_
    refine Run.iconst (v := nI 4) d_La_law_909 ic_4 ?_
    refine Run.iadd_n d_La_law_910 ?_
    refine Run.sld_n d_La_law_911 (by omega) (by omega) ?_
    refine Run.aload_n d_La_law_912 rfl ?_
    refine Run.iload_n d_La_law_913 rfl ?_
    refine Run.iconst (v := nI 5) d_La_law_914 ic_5 ?_
    refine Run.iadd_n d_La_law_915 ?_
    refine Run.sld_n d_La_law_916 (by omega) (by omega) ?_
    refine Run.if_eq d_La_law_917 (fun _ => ?_) (fun z => absurd hz z)
    refine Run.iconst (v := nI 0) d_La_law_924 ic_0 ?_
    refine Run.V5 d_La_law_925 lk_La_123 cm_PM_glints iv_PM_glints rfl hfs (Nat.le_of_ble_eq_true rfl) (Nat.le_of_ble_eq_true rfl) hc1 (fun r1 h1 q1 => ?_)
    obtain ⟨rfl, ⟨fs2, hfs2⟩, Q2, hc2, hk2⟩ := hk1 r1 h1 q1
    show Run _ _ _ _ _ _ _ [.int v] _ _
    refine Run.aload_n d_La_law_928 rfl ?_
    refine Run.aload_n d_La_law_929 rfl ?_
    refine Run.iload_n d_La_law_930 rfl ?_
    refine Run.iconst (v := nI 1) d_La_law_931 ic_1 ?_
    refine Run.iadd_n d_La_law_932 ?_
    refine Run.sld_n d_La_law_933 (by omega) (by omega) ?_
    refine Run.aload_n d_La_law_934 rfl ?_
    refine Run.iload_n d_La_law_935 rfl ?_
    refine Run.iconst (v := nI 2) d_La_law_936 ic_2 ?_
    refine Run.iadd_n d_La_law_937 ?_
    refine Run.sld_n d_La_law_938 (by omega) (by omega) ?_
    refine Run.aload_n d_La_law_939 rfl ?_
    refine Run.iload_n d_La_law_940 rfl ?_
    refine Run.iconst (v := nI 3) d_La_law_941 ic_3 ?_
    refine Run.iadd_n d_La_law_942 ?_
    refine Run.sld_n d_La_law_943 (by omega) (by omega) ?_
    refine Run.aload_n d_La_law_944 rfl ?_
    refine Run.iload_n d_La_law_945 rfl ?_
    refine Run.iconst (v := nI 4) d_La_law_946 ic_4 ?_
    refine Run.iadd_n d_La_law_947 ?_
    refine Run.sld_n d_La_law_948 (by omega) (by omega) ?_
    refine Run.aload_n d_La_law_949 rfl ?_
    refine Run.iload_n d_La_law_950 rfl ?_
    refine Run.iconst (v := nI 5) d_La_law_951 ic_5 ?_
    refine Run.iadd_n d_La_law_952 ?_
    refine Run.sld_n d_La_law_953 (by omega) (by omega) ?_
    refine Run.if_eq d_La_law_954 (fun _ => ?_) (fun z => absurd hz z)
    refine Run.iconst (v := nI 0) d_La_law_961 ic_0 ?_
    refine Run.V5 d_La_law_962 lk_La_127 cm_Rf_glints iv_Rf_glints rfl hfs2 (Nat.le_of_ble_eq_true rfl) (Nat.le_of_ble_eq_true rfl) hc2 (fun r2 h2 q2 => ?_)
    obtain ⟨rfl, hI2⟩ := hk2 r2 h2 q2
    show Run _ _ _ _ _ _ _ [.int v, .int v] _ _
    exact Run.icmp_eq d_La_law_965 (fun _ => kk h2 hI2) (fun z => absurd rfl z)
  · obtain ⟨⟨fs, hfs⟩, v, Q1, hc1, hk1⟩ := pr_glints (X := X) (N := i) (x := X.2 (6 * i + 1)) (y := X.2 (6 * i + 2)) (a := X.2 (6 * i + 3)) (b := X.2 (6 * i + 4)) (u := true) (by omega) h hI
    refine Run.aload_n d_La_law_891 rfl ?_
    refine Run.aload_n d_La_law_892 rfl ?_
    refine Run.iload_n d_La_law_893 rfl ?_
    refine Run.iconst (v := nI 1) d_La_law_894 ic_1 ?_
    refine Run.iadd_n d_La_law_895 ?_
    refine Run.sld_n d_La_law_896 (by omega) (by omega) ?_
    refine Run.aload_n d_La_law_897 rfl ?_
    refine Run.iload_n d_La_law_898 rfl ?_
    refine Run.iconst (v := nI 2) d_La_law_899 ic_2 ?_
    refine Run.iadd_n d_La_law_900 ?_
    refine Run.sld_n d_La_law_901 (by omega) (by omega) ?_
    refine Run.aload_n d_La_law_902 rfl ?_
    refine Run.iload_n d_La_law_903 rfl ?_
    refine Run.iconst (v := nI 3) d_La_law_904 ic_3 ?_
    refine Run.iadd_n d_La_law_905 ?_
    refine Run.sld_n d_La_law_906 (by omega) (by omega) ?_
    refine Run.aload_n d_La_law_907 rfl ?_
    refine Run.iload_n d_La_law_908 rfl ?_
    refine Run.iconst (v := nI 4) d_La_law_909 ic_4 ?_
    refine Run.iadd_n d_La_law_910 ?_
    refine Run.sld_n d_La_law_911 (by omega) (by omega) ?_
    refine Run.aload_n d_La_law_912 rfl ?_
    refine Run.iload_n d_La_law_913 rfl ?_
    refine Run.iconst (v := nI 5) d_La_law_914 ic_5 ?_
    refine Run.iadd_n d_La_law_915 ?_
    refine Run.sld_n d_La_law_916 (by omega) (by omega) ?_
    refine Run.if_eq d_La_law_917 (fun z => absurd z hz) (fun _ => ?_)
    refine Run.iconst (v := nI 1) d_La_law_920 ic_1 ?_
    refine Run.goto d_La_law_921 ?_
    refine Run.V5 d_La_law_925 lk_La_123 cm_PM_glints iv_PM_glints rfl hfs (Nat.le_of_ble_eq_true rfl) (Nat.le_of_ble_eq_true rfl) hc1 (fun r1 h1 q1 => ?_)
    obtain ⟨rfl, ⟨fs2, hfs2⟩, Q2, hc2, hk2⟩ := hk1 r1 h1 q1
    show Run _ _ _ _ _ _ _ [.int v] _ _
    refine Run.aload_n d_La_law_928 rfl ?_
    refine Run.aload_n d_La_law_929 rfl ?_
    refine Run.iload_n d_La_law_930 rfl ?_
    refine Run.iconst (v := nI 1) d_La_law_931 ic_1 ?_
    refine Run.iadd_n d_La_law_932 ?_
    refine Run.sld_n d_La_law_933 (by omega) (by omega) ?_
    refine Run.aload_n d_La_law_934 rfl ?_
    refine Run.iload_n d_La_law_935 rfl ?_
    refine Run.iconst (v := nI 2) d_La_law_936 ic_2 ?_
    refine Run.iadd_n d_La_law_937 ?_
    refine Run.sld_n d_La_law_938 (by omega) (by omega) ?_
    refine Run.aload_n d_La_law_939 rfl ?_
    refine Run.iload_n d_La_law_940 rfl ?_
    refine Run.iconst (v := nI 3) d_La_law_941 ic_3 ?_
    refine Run.iadd_n d_La_law_942 ?_
    refine Run.sld_n d_La_law_943 (by omega) (by omega) ?_
    refine Run.aload_n d_La_law_944 rfl ?_
    refine Run.iload_n d_La_law_945 rfl ?_
    refine Run.iconst (v := nI 4) d_La_law_946 ic_4 ?_
    refine Run.iadd_n d_La_law_947 ?_
    refine Run.sld_n d_La_law_948 (by omega) (by omega) ?_
    refine Run.aload_n d_La_law_949 rfl ?_
    refine Run.iload_n d_La_law_950 rfl ?_
    refine Run.iconst (v := nI 5) d_La_law_951 ic_5 ?_
    refine Run.iadd_n d_La_law_952 ?_
    refine Run.sld_n d_La_law_953 (by omega) (by omega) ?_
    refine Run.if_eq d_La_law_954 (fun z => absurd z hz) (fun _ => ?_)
    refine Run.iconst (v := nI 1) d_La_law_957 ic_1 ?_
    refine Run.goto d_La_law_958 ?_
    refine Run.V5 d_La_law_962 lk_La_127 cm_Rf_glints iv_Rf_glints rfl hfs2 (Nat.le_of_ble_eq_true rfl) (Nat.le_of_ble_eq_true rfl) hc2 (fun r2 h2 q2 => ?_)
    obtain ⟨rfl, hI2⟩ := hk2 r2 h2 q2
    show Run _ _ _ _ _ _ _ [.int v, .int v] _ _
    exact Run.icmp_eq d_La_law_965 (fun _ => kk h2 hI2) (fun z => absurd rfl z)
theorem l_seed (hI : InvH i h) (hlt : 6 * i + 6 ≤ X.1) (hL : X.1 ≤ 3072) (kk : ∀ h2, InvH (i + 1) h2 → Run X 41 0 0 M_La_law 1093 [some (.ref 0), some (.ref 1), some (.ref 44), some (.int (nI (6 * i)))] [] h2 QL) : Run X 41 0 0 M_La_law 970 [some (.ref 0), some (.ref 1), some (.ref 44), some (.int (nI (6 * i)))] [] h QL := by
  obtain ⟨⟨fs, hfs⟩, v, Q1, hc1, hk1⟩ := pr_seed (X := X) (N := i) (v := ((X.2 (6 * i + 1)).toInt64 <<< ((nI 32).toInt64 &&& 63)) ||| ((X.2 (6 * i + 2)).toInt64 &&& 4294967295)) h hI
  refine Run.aload_n d_La_law_970 rfl ?_
  refine Run.aload_n d_La_law_971 rfl ?_
  refine Run.iload_n d_La_law_972 rfl ?_
  refine Run.iconst (v := nI 1) d_La_law_973 ic_1 ?_
  refine Run.iadd_n d_La_law_974 ?_
  refine Run.sld_n d_La_law_975 (by omega) (by omega) ?_
  refine Run.i2l d_La_law_976 ?_
  refine Run.bipush (v := nI 32) d_La_law_977 bp_32 ?_
  refine Run.lshl d_La_law_979 ?_
  refine Run.aload_n d_La_law_980 rfl ?_
  refine Run.iload_n d_La_law_981 rfl ?_
  refine Run.iconst (v := nI 2) d_La_law_982 ic_2 ?_
  refine Run.iadd_n d_La_law_983 ?_
  refine Run.sld_n d_La_law_984 (by omega) (by omega) ?_
  refine Run.i2l d_La_law_985 ?_
  refine Run.ldc2 d_La_law_986 kn_La_91 ?_
  refine Run.land d_La_law_989 ?_
  refine Run.lor d_La_law_990 ?_
  refine Run.V1 d_La_law_991 lk_La_128 cm_PM_seed iv_PM_seed rfl hfs (Nat.le_of_ble_eq_true rfl) (Nat.le_of_ble_eq_true rfl) hc1 (fun r1 h1 q1 => ?_)
  obtain ⟨rfl, ⟨fs2, hfs2⟩, Q2, hc2, hk2⟩ := hk1 r1 h1 q1
  show Run _ _ _ _ _ _ _ [.long v] _ _
  refine Run.aload_n d_La_law_994 rfl ?_
  refine Run.aload_n d_La_law_995 rfl ?_
  refine Run.iload_n d_La_law_996 rfl ?_
  refine Run.iconst (v := nI 1) d_La_law_997 ic_1 ?_
  refine Run.iadd_n d_La_law_998 ?_
  refine Run.sld_n d_La_law_999 (by omega) (by omega) ?_
  refine Run.i2l d_La_law_1000 ?_
  refine Run.bipush (v := nI 32) d_La_law_1001 bp_32 ?_
  refine Run.lshl d_La_law_1003 ?_
  refine Run.aload_n d_La_law_1004 rfl ?_
  refine Run.iload_n d_La_law_1005 rfl ?_
  refine Run.iconst (v := nI 2) d_La_law_1006 ic_2 ?_
  refine Run.iadd_n d_La_law_1007 ?_
  refine Run.sld_n d_La_law_1008 (by omega) (by omega) ?_
  refine Run.i2l d_La_law_1009 ?_
  refine Run.ldc2 d_La_law_1010 kn_La_91 ?_
  refine Run.land d_La_law_1013 ?_
  refine Run.lor d_La_law_1014 ?_
  refine Run.V1 d_La_law_1015 lk_La_132 cm_Rf_seed iv_Rf_seed rfl hfs2 (Nat.le_of_ble_eq_true rfl) (Nat.le_of_ble_eq_true rfl) hc2 (fun r2 h2 q2 => ?_)
  obtain ⟨rfl, hI2⟩ := hk2 r2 h2 q2
  show Run _ _ _ _ _ _ _ [.long v, .long v] _ _
  refine Run.lcmp d_La_law_1018 ?_
  exact Run.if_eq d_La_law_1019 (fun _ => kk h2 hI2) (fun z => absurd (lg_eq0.mpr rfl) z)
theorem l_years (hI : InvH i h) (hlt : 6 * i + 6 ≤ X.1) (hL : X.1 ≤ 3072) (kk : ∀ h2, InvH (i + 1) h2 → Run X 41 0 0 M_La_law 1093 [some (.ref 0), some (.ref 1), some (.ref 44), some (.int (nI (6 * i)))] [] h2 QL) : Run X 41 0 0 M_La_law 1024 [some (.ref 0), some (.ref 1), some (.ref 44), some (.int (nI (6 * i)))] [] h QL := by
  obtain ⟨⟨fs, hfs⟩, v, Q1, hc1, hk1⟩ := pr_years (X := X) (N := i) (x := X.2 (6 * i + 1)) (by omega) h hI
  refine Run.aload_n d_La_law_1024 rfl ?_
  refine Run.aload_n d_La_law_1025 rfl ?_
  refine Run.iload_n d_La_law_1026 rfl ?_
  refine Run.iconst (v := nI 1) d_La_law_1027 ic_1 ?_
  refine Run.iadd_n d_La_law_1028 ?_
  refine Run.sld_n d_La_law_1029 (by omega) (by omega) ?_
  refine Run.V1 d_La_law_1030 lk_La_133 cm_PM_years iv_PM_years rfl hfs (Nat.le_of_ble_eq_true rfl) (Nat.le_of_ble_eq_true rfl) hc1 (fun r1 h1 q1 => ?_)
  obtain ⟨rfl, ⟨fs2, hfs2⟩, Q2, hc2, hk2⟩ := hk1 r1 h1 q1
  show Run _ _ _ _ _ _ _ [.int v] _ _
  refine Run.aload_n d_La_law_1033 rfl ?_
  refine Run.aload_n d_La_law_1034 rfl ?_
  refine Run.iload_n d_La_law_1035 rfl ?_
  refine Run.iconst (v := nI 1) d_La_law_1036 ic_1 ?_
  refine Run.iadd_n d_La_law_1037 ?_
  refine Run.sld_n d_La_law_1038 (by omega) (by omega) ?_
  refine Run.V1 d_La_law_1039 lk_La_136 cm_Rf_years iv_Rf_years rfl hfs2 (Nat.le_of_ble_eq_true rfl) (Nat.le_of_ble_eq_true rfl) hc2 (fun r2 h2 q2 => ?_)
  obtain ⟨rfl, hI2⟩ := hk2 r2 h2 q2
  show Run _ _ _ _ _ _ _ [.int v, .int v] _ _
  exact Run.icmp_eq d_La_law_1042 (fun _ => kk h2 hI2) (fun z => absurd rfl z)
theorem l_keep (hI : InvH i h) (hlt : 6 * i + 6 ≤ X.1) (hL : X.1 ≤ 3072) (kk : ∀ h2, InvH (i + 1) h2 → Run X 41 0 0 M_La_law 1093 [some (.ref 0), some (.ref 1), some (.ref 44), some (.int (nI (6 * i)))] [] h2 QL) : Run X 41 0 0 M_La_law 1047 [some (.ref 0), some (.ref 1), some (.ref 44), some (.int (nI (6 * i)))] [] h QL := by
  obtain ⟨⟨fs, hfs⟩, v, Q1, hc1, hk1⟩ := pr_keep (X := X) (N := i) (x := X.2 (6 * i + 1)) (by omega) h hI
  refine Run.aload_n d_La_law_1047 rfl ?_
  refine Run.aload_n d_La_law_1048 rfl ?_
  refine Run.iload_n d_La_law_1049 rfl ?_
  refine Run.iconst (v := nI 1) d_La_law_1050 ic_1 ?_
  refine Run.iadd_n d_La_law_1051 ?_
  refine Run.sld_n d_La_law_1052 (by omega) (by omega) ?_
  refine Run.V1 d_La_law_1053 lk_La_137 cm_PM_keep iv_PM_keep rfl hfs (Nat.le_of_ble_eq_true rfl) (Nat.le_of_ble_eq_true rfl) hc1 (fun r1 h1 q1 => ?_)
  obtain ⟨rfl, ⟨fs2, hfs2⟩, Q2, hc2, hk2⟩ := hk1 r1 h1 q1
  show Run _ _ _ _ _ _ _ [.int v] _ _
  refine Run.aload_n d_La_law_1056 rfl ?_
  refine Run.aload_n d_La_law_1057 rfl ?_
  refine Run.iload_n d_La_law_1058 rfl ?_
  refine Run.iconst (v := nI 1) d_La_law_1059 ic_1 ?_
  refine Run.iadd_n d_La_law_1060 ?_
  refine Run.sld_n d_La_law_1061 (by omega) (by omega) ?_
  refine Run.V1 d_La_law_1062 lk_La_140 cm_Rf_keep iv_Rf_keep rfl hfs2 (Nat.le_of_ble_eq_true rfl) (Nat.le_of_ble_eq_true rfl) hc2 (fun r2 h2 q2 => ?_)
  obtain ⟨rfl, hI2⟩ := hk2 r2 h2 q2
  show Run _ _ _ _ _ _ _ [.int v, .int v] _ _
  exact Run.icmp_eq d_La_law_1065 (fun _ => kk h2 hI2) (fun z => absurd rfl z)
theorem l_again (hI : InvH i h) (hlt : 6 * i + 6 ≤ X.1) (hL : X.1 ≤ 3072) (kk : ∀ h2, InvH (i + 1) h2 → Run X 41 0 0 M_La_law 1093 [some (.ref 0), some (.ref 1), some (.ref 44), some (.int (nI (6 * i)))] [] h2 QL) : Run X 41 0 0 M_La_law 1070 [some (.ref 0), some (.ref 1), some (.ref 44), some (.int (nI (6 * i)))] [] h QL := by
  obtain ⟨⟨fs, hfs⟩, v, Q1, hc1, hk1⟩ := pr_again (X := X) (N := i) (x := X.2 (6 * i + 1)) (by omega) h hI
  refine Run.aload_n d_La_law_1070 rfl ?_
  refine Run.aload_n d_La_law_1071 rfl ?_
  refine Run.iload_n d_La_law_1072 rfl ?_
  refine Run.iconst (v := nI 1) d_La_law_1073 ic_1 ?_
  refine Run.iadd_n d_La_law_1074 ?_
  refine Run.sld_n d_La_law_1075 (by omega) (by omega) ?_
  refine Run.V1 d_La_law_1076 lk_La_141 cm_PM_again iv_PM_again rfl hfs (Nat.le_of_ble_eq_true rfl) (Nat.le_of_ble_eq_true rfl) hc1 (fun r1 h1 q1 => ?_)
  obtain ⟨rfl, ⟨fs2, hfs2⟩, Q2, hc2, hk2⟩ := hk1 r1 h1 q1
  show Run _ _ _ _ _ _ _ [.int v] _ _
  refine Run.aload_n d_La_law_1079 rfl ?_
  refine Run.aload_n d_La_law_1080 rfl ?_
  refine Run.iload_n d_La_law_1081 rfl ?_
  refine Run.iconst (v := nI 1) d_La_law_1082 ic_1 ?_
  refine Run.iadd_n d_La_law_1083 ?_
  refine Run.sld_n d_La_law_1084 (by omega) (by omega) ?_
  refine Run.V1 d_La_law_1085 lk_La_144 cm_Rf_again iv_Rf_again rfl hfs2 (Nat.le_of_ble_eq_true rfl) (Nat.le_of_ble_eq_true rfl) hc2 (fun r2 h2 q2 => ?_)
  obtain ⟨rfl, hI2⟩ := hk2 r2 h2 q2
  show Run _ _ _ _ _ _ _ [.int v, .int v] _ _
  exact Run.icmp_eq d_La_law_1088 (fun _ => kk h2 hI2) (fun z => absurd rfl z)
theorem l_sw {w : Nat} (hw : w < 32) (hI : InvH i h) (hlt : 6 * i + 6 ≤ X.1) (hL : X.1 ≤ 3072) (kk : ∀ h2, InvH (i + 1) h2 → Run X 41 0 0 M_La_law 1093 [some (.ref 0), some (.ref 1), some (.ref 44), some (.int (nI (6 * i)))] [] h2 QL) (k0 : Run X 41 0 0 M_La_law 1093 [some (.ref 0), some (.ref 1), some (.ref 44), some (.int (nI (6 * i)))] [] h QL) : Run X 41 0 0 M_La_law 33 [some (.ref 0), some (.ref 1), some (.ref 44), some (.int (nI (6 * i)))] [.int (nI w)] h QL := by
  rcases (show w = 0 ∨ w = 1 ∨ w = 2 ∨ w = 3 ∨ w = 4 ∨ w = 5 ∨ w = 6 ∨ w = 7 ∨ w = 8 ∨ w = 9 ∨ w = 10 ∨ w = 11 ∨ w = 12 ∨ w = 13 ∨ w = 14 ∨ w = 15 ∨ w = 16 ∨ w = 17 ∨ w = 18 ∨ w = 19 ∨ w = 20 ∨ w = 21 ∨ w = 22 ∨ w = 23 ∨ w = 24 ∨ w = 25 ∨ w = 26 ∨ w = 27 ∨ w = 28 ∨ w = 29 ∨ 30 ≤ w by omega) with rfl | rfl | rfl | rfl | rfl | rfl | rfl | rfl | rfl | rfl | rfl | rfl | rfl | rfl | rfl | rfl | rfl | rfl | rfl | rfl | rfl | rfl | rfl | rfl | rfl | rfl | rfl | rfl | rfl | rfl | hw2
  · exact Run.tswIn (off := 135) (tgt := 168) d_La_law_33 (by decide +kernel) (by decide +kernel) (by decide +kernel) rfl (l_write hI hlt hL kk)
  · exact Run.tswIn (off := 158) (tgt := 191) d_La_law_33 (by decide +kernel) (by decide +kernel) (by decide +kernel) rfl (l_wipe hI hlt hL kk)
  · exact Run.tswIn (off := 171) (tgt := 204) d_La_law_33 (by decide +kernel) (by decide +kernel) (by decide +kernel) rfl (l_fault hI hlt hL kk)
  · exact Run.tswIn (off := 184) (tgt := 217) d_La_law_33 (by decide +kernel) (by decide +kernel) (by decide +kernel) rfl (l_coast hI hlt hL kk)
  · exact Run.tswIn (off := 197) (tgt := 230) d_La_law_33 (by decide +kernel) (by decide +kernel) (by decide +kernel) rfl (l_about hI hlt hL kk)
  · exact Run.tswIn (off := 220) (tgt := 253) d_La_law_33 (by decide +kernel) (by decide +kernel) (by decide +kernel) rfl (l_holder hI hlt hL kk)
  · exact Run.tswIn (off := 253) (tgt := 286) d_La_law_33 (by decide +kernel) (by decide +kernel) (by decide +kernel) rfl (l_piece hI hlt hL kk)
  · exact Run.tswIn (off := 286) (tgt := 319) d_La_law_33 (by decide +kernel) (by decide +kernel) (by decide +kernel) rfl (l_shows hI hlt hL kk)
  · exact Run.tswIn (off := 329) (tgt := 362) d_La_law_33 (by decide +kernel) (by decide +kernel) (by decide +kernel) rfl (l_tilt hI hlt hL kk)
  · exact Run.tswIn (off := 378) (tgt := 411) d_La_law_33 (by decide +kernel) (by decide +kernel) (by decide +kernel) rfl (l_give hI hlt hL kk)
  · exact Run.tswIn (off := 411) (tgt := 444) d_La_law_33 (by decide +kernel) (by decide +kernel) (by decide +kernel) rfl (l_hour hI hlt hL kk)
  · exact Run.tswIn (off := 424) (tgt := 457) d_La_law_33 (by decide +kernel) (by decide +kernel) (by decide +kernel) rfl (l_undo hI hlt hL kk)
  · exact Run.tswIn (off := 437) (tgt := 470) d_La_law_33 (by decide +kernel) (by decide +kernel) (by decide +kernel) rfl (l_tilts hI hlt hL kk)
  · exact Run.tswIn (off := 470) (tgt := 503) d_La_law_33 (by decide +kernel) (by decide +kernel) (by decide +kernel) rfl (l_finds hI hlt hL kk)
  · exact Run.tswIn (off := 503) (tgt := 536) d_La_law_33 (by decide +kernel) (by decide +kernel) (by decide +kernel) rfl (l_all hI hlt hL kk)
  · exact Run.tswIn (off := 526) (tgt := 559) d_La_law_33 (by decide +kernel) (by decide +kernel) (by decide +kernel) rfl (l_when hI hlt hL kk)
  · exact Run.tswIn (off := 559) (tgt := 592) d_La_law_33 (by decide +kernel) (by decide +kernel) (by decide +kernel) rfl (l_mothers hI hlt hL kk)
  · exact Run.tswIn (off := 572) (tgt := 605) d_La_law_33 (by decide +kernel) (by decide +kernel) (by decide +kernel) rfl (l_giving hI hlt hL kk)
  · exact Run.tswIn (off := 611) (tgt := 644) d_La_law_33 (by decide +kernel) (by decide +kernel) (by decide +kernel) rfl (l_judge hI hlt hL kk)
  · exact Run.tswIn (off := 674) (tgt := 707) d_La_law_33 (by decide +kernel) (by decide +kernel) (by decide +kernel) rfl (l_share hI hlt hL kk)
  · exact Run.tswIn (off := 723) (tgt := 756) d_La_law_33 (by decide +kernel) (by decide +kernel) (by decide +kernel) rfl (l_turn hI hlt hL kk)
  · exact Run.tswIn (off := 756) (tgt := 789) d_La_law_33 (by decide +kernel) (by decide +kernel) (by decide +kernel) rfl (l_unturn hI hlt hL kk)
  · exact Run.tswIn (off := 769) (tgt := 802) d_La_law_33 (by decide +kernel) (by decide +kernel) (by decide +kernel) rfl (l_may hI hlt hL kk)
  · exact Run.tswIn (off := 792) (tgt := 825) d_La_law_33 (by decide +kernel) (by decide +kernel) (by decide +kernel) rfl (l_next hI hlt hL kk)
  · exact Run.tswIn (off := 805) (tgt := 838) d_La_law_33 (by decide +kernel) (by decide +kernel) (by decide +kernel) rfl (l_rests hI hlt hL kk)
  · exact Run.tswIn (off := 858) (tgt := 891) d_La_law_33 (by decide +kernel) (by decide +kernel) (by decide +kernel) rfl (l_glints hI hlt hL kk)
  · exact Run.tswIn (off := 937) (tgt := 970) d_La_law_33 (by decide +kernel) (by decide +kernel) (by decide +kernel) rfl (l_seed hI hlt hL kk)
  · exact Run.tswIn (off := 991) (tgt := 1024) d_La_law_33 (by decide +kernel) (by decide +kernel) (by decide +kernel) rfl (l_years hI hlt hL kk)
  · exact Run.tswIn (off := 1014) (tgt := 1047) d_La_law_33 (by decide +kernel) (by decide +kernel) (by decide +kernel) rfl (l_keep hI hlt hL kk)
  · exact Run.tswIn (off := 1037) (tgt := 1070) d_La_law_33 (by decide +kernel) (by decide +kernel) (by decide +kernel) rfl (l_again hI hlt hL kk)
  · exact Run.tswOut (tgt := 1093) d_La_law_33 (by rw [nI_toInt (by omega)]; omega) rfl k0
theorem InvH.up (hI : InvH i h) : InvH (i + 1) h := by
  obtain ⟨tx, ca, cb, kt, kd, sd, nw, tr, ac, tu, gi, mo, dn, ch, s0, s1, z1, z2, z3, z4, z5, z6, z7, z8, z9, y1, y2, y3, y4, rt, ho, pi, rh, rp, pg, rr, bk, kp, ik, ta, tp, ga, gr, va, rw, rfl, hT, hW, hU⟩ := hI
  exact inv_mk hT hW.up hU
theorem l_loop (hL : X.1 ≤ 3072) : ∀ i, i ≤ X.1 / 6 → ∀ h, InvH i h → Run X 41 0 0 M_La_law 18 [some (.ref 0), some (.ref 1), some (.ref 44), some (.int (nI (6 * i)))] [] h QL := by
  refine upto (X.1 / 6) (fun i => ∀ h, InvH i h → Run X 41 0 0 M_La_law 18 [some (.ref 0), some (.ref 1), some (.ref 44), some (.int (nI (6 * i)))] [] h QL) ?_
  intro i hi ih h hI
  have k1093 : 6 * i + 6 ≤ X.1 → ∀ h2, InvH (i + 1) h2 → Run X 41 0 0 M_La_law 1093 [some (.ref 0), some (.ref 1), some (.ref 44), some (.int (nI (6 * i)))] [] h2 QL := by
    intro hlt h2 hI2
    refine Run.iinc_n d_La_law_1093 ic_6 rfl rfl ?_
    show Run _ _ _ _ _ _ [_, _, _, _] _ _ _
    refine Run.goto d_La_law_1096 ?_
    exact ih (by omega) h2 hI2
  refine Run.iload_n d_La_law_18 rfl ?_
  refine Run.aload_n d_La_law_19 rfl ?_
  refine Run.slen d_La_law_20 ?_
  refine Run.bipush (v := nI 6) d_La_law_21 bp_6 ?_
  refine Run.isub d_La_law_23 ?_
  refine Run.icmp_gt d_La_law_24 (fun _ => ?_) (fun z => ?_)
  · refine Run.iconst (v := nI 1) d_La_law_1099 ic_1 ?_
    refine Run.iret d_La_law_1100 rfl (by decide +kernel) ?_
    exact rfl
  · have hlt : 6 * i + 6 ≤ X.1 := by
      have z2 := Int32.le_iff_toInt_le.mp (Int32.not_lt.mp z)
      rw [pk_sub_toInt (by omega) (by omega), nI_toInt (by omega)] at z2
      omega
    refine Run.aload_n d_La_law_27 rfl ?_
    refine Run.iload_n d_La_law_28 rfl ?_
    refine Run.sld_n d_La_law_29 (by omega) (by omega) ?_
    refine Run.bipush (v := nI 31) d_La_law_30 bp_31 ?_
    refine Run.iand d_La_law_32 ?_
    rw [pk_and (X.2 (6 * i)) (m := nI 31) 5 (by decide +kernel)]
    exact l_sw (Nat.mod_lt _ (by omega)) hI hlt hL (k1093 hlt) (k1093 hlt h hI.up)
end LAW
