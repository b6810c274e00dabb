/-! MATHEMATICS (5): counts, longs -/
theorem ct_c {p q : Nat → Bool} {n : Nat} (h : ∀ i, i < n → p i = q i) : ct p n = ct q n := by
  induction n with
  | zero => rfl
  | succ n ih => rw [ct, ct, ih (fun i hi => h i (by omega)), h n (by omega)]
theorem ct_mono {p q : Nat → Bool} : ∀ n, (∀ i, i < n → p i = true → q i = true) → ct p n ≤ ct q n
  | 0, _ => Nat.le_refl _
  | n + 1, h => by
    have ih := ct_mono n (fun i hi => h i (by omega))
    rw [ct, ct]
    cases hp : p n with
    | false => simp; omega
    | true => rw [h n (by omega) hp]; simp; omega
theorem ct_lt {p q : Nat → Bool} {j : Nat} : ∀ n, j < n → (∀ i, i < n → p i = true → q i = true) → p j = false → q j = true → ct p n < ct q n
  | 0, hj, _, _, _ => by omega
  | n + 1, hj, h, h1, h2 => by
    by_cases e : j = n
    · subst e
      have := ct_mono (p := p) (q := q) j (fun i hi => h i (by omega))
      rw [ct, ct, h1, h2]; simp; omega
    · have ih := ct_lt n (by omega) (fun i hi => h i (by omega)) h1 h2
      rw [ct, ct]
      cases hp : p n with
      | false => simp; omega
      | true => rw [h n (by omega) hp]; simp; omega
/-- longs that do not wrap -/
theorem q_mulJ {a b : Int64} (h1 : -9000000000000000000 ≤ a.toInt * b.toInt) (h2 : a.toInt * b.toInt ≤ 9000000000000000000) : (a * b).toInt = a.toInt * b.toInt := by
  rw [Int64.toInt_mul]
  apply Int.bmod_eq_of_le <;> omega
theorem q_addJ {a b : Int64} (h1 : -9000000000000000000 ≤ a.toInt + b.toInt) (h2 : a.toInt + b.toInt ≤ 9000000000000000000) : (a + b).toInt = a.toInt + b.toInt := by
  rw [Int64.toInt_add]
  apply Int.bmod_eq_of_le <;> omega
theorem q_subJ {a b : Int64} (h1 : -9000000000000000000 ≤ a.toInt - b.toInt) (h2 : a.toInt - b.toInt ≤ 9000000000000000000) : (a - b).toInt = a.toInt - b.toInt := by
  rw [Int64.toInt_sub]
  apply Int.bmod_eq_of_le <;> omega
theorem q_divJ {a b : Int64} (h1 : 0 ≤ a.toInt) (h2 : 0 < b.toInt) : (a / b).toInt = a.toInt / b.toInt := by
  have h3 := Int.ediv_nonneg h1 (Int.le_of_lt h2)
  have h4 : a.toInt / b.toInt ≤ a.toInt := Int.ediv_le_self _ h1
  have h5 : a.toInt < 9223372036854775808 := Int64.toInt_lt a
  rw [Int64.toInt_div, Int.tdiv_eq_ediv_of_nonneg h1]
  apply Int.bmod_eq_of_le <;> omega
theorem q_remJ {a b : Int64} (h1 : 0 ≤ a.toInt) (h2 : 0 < b.toInt) : (a - a / b * b).toInt = a.toInt % b.toInt := by
  have e := q_divJ h1 h2
  have h3 := Int.ediv_nonneg h1 (Int.le_of_lt h2)
  have h5 : a.toInt < 9223372036854775808 := Int64.toInt_lt a
  have h6 := Int.emod_nonneg a.toInt (show b.toInt ≠ 0 by omega)
  have h7 := Int.mul_ediv_add_emod a.toInt b.toInt
  have h8 : a.toInt / b.toInt * b.toInt = b.toInt * (a.toInt / b.toInt) := Int.mul_comm _ _
  have h10 : 0 ≤ a.toInt / b.toInt * b.toInt := Int.mul_nonneg h3 (by omega)
  have h9 : (a / b * b).toInt = a.toInt / b.toInt * b.toInt := by
    rw [Int64.toInt_mul, e]
    apply Int.bmod_eq_of_le <;> omega
  rw [Int64.toInt_sub, h9]
  rw [Int.bmod_eq_of_le] <;> omega
