section
theorem zz_try (a b : Nat) : nI a + nI b = nI (a + b) := by
  simp [nI]
end
