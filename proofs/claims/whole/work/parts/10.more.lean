/-! ===== calls by the number of their arguments; Math.min, Math.max; numbers ===== -/
def Ret (v : Value) (h : AH) : Option Value → AH → Prop := fun r h2 => r = some v ∧ h2 = h
def Rv (h : AH) : Option Value → AH → Prop := fun r h2 => r = none ∧ h2 = h
section RUNM
variable {X : Nat × (Nat → Int32)} {d kc ks : Nat} {M : MR} {pc nx : Nat} {L : List (Option Value)} {S : List Value} {h : AH} {Q : Option Value → AH → Prop}
theorem Run.mmin {idx : Nat} {x y : Int32} (hd : DI M pc (.invokestatic idx) 3 nx) (hlk : Cond.methodLink M.1.cls idx Lib.Math.min.name ∈ TB) (hw : (S.map fun v => v.category).sum ≤ 8) (kk : Run X (d + 1) kc ks M nx L (.int (if y < x then y else x) :: S) h Q) : Run X (d + 1) kc ks M pc L (.int y :: .int x :: S) h Q := by
  obtain ⟨hd, rfl⟩ := hd
  intro E p l e R s m args below meth c H locs cells slots Z ls C h1 h2 h3 h4 hH hS hl kz
  exact va_mmin C.1 C.2.1 (by rw [C.2.2.2.1]; exact hl.1.symm) C.own (C.ts _ hlk) (C.ts _ mst_min) (C.ts _ mini) (C.ts _ mcd_min) (by omega) (by rw [e_sum]; omega) (by omega) (by omega) hd (kk E p l e R s m args below meth c H locs cells slots Z ls C h1 h2 h3 h4 hH hS hl kz)
theorem Run.mmax {idx : Nat} {x y : Int32} (hd : DI M pc (.invokestatic idx) 3 nx) (hlk : Cond.methodLink M.1.cls idx Lib.Math.max.name ∈ TB) (hw : (S.map fun v => v.category).sum ≤ 8) (kk : Run X (d + 1) kc ks M nx L (.int (if x < y then y else x) :: S) h Q) : Run X (d + 1) kc ks M pc L (.int y :: .int x :: S) h Q := by
  obtain ⟨hd, rfl⟩ := hd
  intro E p l e R s m args below meth c H locs cells slots Z ls C h1 h2 h3 h4 hH hS hl kz
  exact va_mmax C.1 C.2.1 (by rw [C.2.2.2.1]; exact hl.1.symm) C.own (C.ts _ hlk) (C.ts _ mst_max) (C.ts _ mini) (C.ts _ mcd_max) (by omega) (by rw [e_sum]; omega) (by omega) (by omega) hd (kk E p l e R s m args below meth c H locs cells slots Z ls C h1 h2 h3 h4 hH hS hl kz)
end RUNM
