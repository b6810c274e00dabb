/-! SECURITIES: reservation, class and model -/
section SH
variable {xs : Nat → Int32} {xl d : Nat} {M : dp_M}
theorem sc_hasN {r n : Nat} {v2 : Int32} (hr : r < 401) (hn : n ≤ 4) (hk : ¬ qin v2 12) (h : dp_J M 96 (r * 12 + 3) = (nI n).toInt64) : dp_den true xs xl (d + 2) 197 [.ref 90, .int (nI r), .int v2] M = iR 0 M := by
  have go : ∀ q : Int32, (q.toInt < 0 ∨ 4 ≤ q.toInt) → D_X8_hasFact_27 xs xl (d + 1) (nI r) v2 q M = iR 0 M := fun q hq => by
    have e0 : (0 : Int32).toInt = 0 := by decide
    rw [D_X8_hasFact_27_eq]
    by_cases z : q < 0
    · rw [if_pos z]
    · rw [if_neg z, sc_parts hr hn h, rb_bi, if_pos]
      rw [Int32.lt_iff_toInt_lt, e0] at z
      rw [Int32.le_iff_toInt_le, nI_toInt (by omega)]; omega
  have e0 : (0 : Int32).toInt = 0 := by decide
  have e8 : (8 : Int32).toInt = 8 := by decide
  have e3 : (3 : Int32).toInt = 3 := by decide
  have e4 : (4 : Int32).toInt = 4 := by decide
  have lo : -2147483648 ≤ v2.toInt := Int32.le_toInt v2
  have hi : v2.toInt < 2147483648 := Int32.toInt_lt v2
  rw [qin_iff] at hk
  rw [D_X8_hasFact_0_den, D_X8_hasFact_0_eq]
  by_cases z : v2 < 0
  · rw [if_pos z]
    rw [Int32.lt_iff_toInt_lt, e0] at z
    rw [if_neg (by rw [Int32.le_iff_toInt_le, e8]; omega)]
    apply go
    rw [Int32.toInt_sub, e4]
    by_cases y : -2147483648 ≤ v2.toInt - 4
    · left
      rw [Int.bmod_eq_of_le (by omega) (by omega)]; omega
    · right
      rw [← Int.add_bmod_right, Int.bmod_eq_of_le (by omega) (by omega)]; omega
  · rw [if_neg z]
    rw [Int32.lt_iff_toInt_lt, e0] at z
    rw [if_pos (by rw [Int32.lt_iff_toInt_lt, e3]; omega), if_pos (by rw [Int32.le_iff_toInt_le, e8]; omega)]
    apply go
    right
    rw [Int32.toInt_sub, e8, Int.bmod_eq_of_le (by omega) (by omega)]; omega
end SH
