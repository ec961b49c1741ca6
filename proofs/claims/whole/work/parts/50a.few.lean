/-! facts of bytes -/
abbrev popN (S : Nat) : Nat := cn (fun e => S.testBit e) 8
theorem d_and1 : ∀ D, D < 256 → ∀ S, S < 256 → S &&& D = S → nI D &&& (nI S ^^^ (-1)) = nI (D - S) := by decide +kernel
theorem d_and2 : ∀ M, M < 256 → ∀ B, B < 256 → ((nI M &&& (nI B ^^^ (-1))) = 0 ↔ M &&& B = M) := by decide +kernel
theorem d_pop : ∀ D, D < 256 → ∀ S, S < 256 → S ≠ 0 → S &&& D = S → popN (D - S) + 1 ≤ popN D := by decide +kernel
