/-! facts of bytes -/
theorem d_dis : ∀ D, D < 256 → ∀ S, S < 256 → (S &&& D = S → (D - S) &&& S = 0) ∧ (D &&& S = 0 → D ||| S = D + S) := by decide +kernel
