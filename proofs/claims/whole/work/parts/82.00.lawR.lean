-- needs: 71 72 73 74 75 76 77 78 79 80 81
/-! THE LAW: all relations together; a call's end -/
/-- the eight ints behind a call's number lie in the script -/
def LIx (xl : Nat) (v4 : Int32) : Prop := (¬ ((v4 + (1 : Int32)) < 0 ∨ xl ≤ Int32.toNatClampNeg (v4 + (1 : Int32)))) ∧ (¬ ((v4 + (2 : Int32)) < 0 ∨ xl ≤ Int32.toNatClampNeg (v4 + (2 : Int32)))) ∧ (¬ ((v4 + (3 : Int32)) < 0 ∨ xl ≤ Int32.toNatClampNeg (v4 + (3 : Int32)))) ∧ (¬ ((v4 + (4 : Int32)) < 0 ∨ xl ≤ Int32.toNatClampNeg (v4 + (4 : Int32)))) ∧ (¬ ((v4 + (5 : Int32)) < 0 ∨ xl ≤ Int32.toNatClampNeg (v4 + (5 : Int32)))) ∧ (¬ ((v4 + (6 : Int32)) < 0 ∨ xl ≤ Int32.toNatClampNeg (v4 + (6 : Int32)))) ∧ (¬ ((v4 + (7 : Int32)) < 0 ∨ xl ≤ Int32.toNatClampNeg (v4 + (7 : Int32)))) ∧ (¬ ((v4 + (8 : Int32)) < 0 ∨ xl ≤ Int32.toNatClampNeg (v4 + (8 : Int32))))
/-- the call is over, all agrees, and little was made -/
def LSt (xs : Nat → Int32) (xl d : Nat) (v4 : Int32) (B T c : Nat) (M : dp_M) (F : Option dp_Res) : Prop := ∃ u5 u6 u7 M' n', F = D_L_law_6132 xs xl d v4 u5 u6 u7 M' ∧ AR M' n' B T (c + 1) ∧ dp_n M' ≤ dp_n M + 3 ∧ dp_z M' ≤ dp_z M + 690
/-- what is still owed: plan -/
def LPl (xs : Nat → Int32) (xl : Nat) : Prop := ∀ (M : dp_M) (n B T c d : Nat) (v1 : Int32), AR M n B T c → c + 1 < 1073741824 → ∃ k b M1 M2, dp_den true xs xl (d + 40) 596 [.ref 0, .int v1, .ref 245] M = iR k M1 ∧ dp_den true xs xl (d + 40) 387 [.ref 114, .int v1] M1 = iR b M2 ∧
    dp_I M2 114 0 = k ∧ (k = 0 → dp_J M2 245 0 = b.toInt64) ∧ AR M2 n B T (c + 1) ∧ True ∧ Cst 1 6 M M2
section LwR
variable {xs : Nat → Int32} {xl d : Nat} {M : dp_M}
theorem lw_thr : dp_den true xs xl (d + 60) 365 [.ref 114] M = iR (dp_I M 114 0) M := by
  rw [D_X12_thrown_0_den, D_X12_thrown_0_eq]
theorem tl_i {k k1 : Int32} {w : Int64} {X Y Z : Option dp_Res} (hk : k1 = k) (hb : k = 0 → dp_J M 245 0 = w) : (if k1 = k then (if k = 0 then (if (0 : Int32) < 0 ∨ 1 ≤ Int32.toNatClampNeg (0 : Int32) then Z else (if (lg_cmp (dp_J M 245 (Int32.toNatClampNeg (0 : Int32))) w) = 0 then X else Y)) else X) else Y) = X := by
  rw [if_pos hk]
  by_cases z : k = 0
  · rw [if_pos z, if_neg (by decide)]
    exact if_pos ((lg_cmp_eq _ _).mpr (hb z))
  · rw [if_neg z]
theorem tl_b {k k1 b : Int32} {X Y Z : Option dp_Res} (hk : k1 = k) (hb : k = 0 → dp_J M 245 0 = if b = 0 then 0 else 1) : (if k1 = k then (if k = 0 then (if (0 : Int32) < 0 ∨ 1 ≤ Int32.toNatClampNeg (0 : Int32) then Z else (if b = 0 then (if (lg_cmp (dp_J M 245 (Int32.toNatClampNeg (0 : Int32))) (0 : Int64)) = 0 then X else Y) else (if (lg_cmp (dp_J M 245 (Int32.toNatClampNeg (0 : Int32))) (1 : Int64)) = 0 then X else Y))) else X) else Y) = X := by
  rw [if_pos hk]
  by_cases z : k = 0
  · rw [if_pos z, if_neg (by decide)]
    have := hb z
    by_cases y : b = 0
    · rw [if_pos y] at this ⊢
      exact if_pos ((lg_cmp_eq _ _).mpr this)
    · rw [if_neg y] at this ⊢
      exact if_pos ((lg_cmp_eq _ _).mpr this)
  · rw [if_neg z]
end LwR
