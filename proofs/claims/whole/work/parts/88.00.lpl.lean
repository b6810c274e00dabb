-- needs: 71 72 73 74 75 76 77 78 79 80 81 82 85 86 87
/-! PLAN: what the law's row takes -/
theorem lpl_ok (xs : Nat → Int32) (xl : Nat) : LPl xs xl := fun M n B T c d v1 h hc => pl_sim h hc
