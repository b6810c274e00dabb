-- needs: 71 72 73 74
/-! RATES: print: how long -/
section Rx
theorem wU_le {n : Nat} : ∀ j u k, 0 < u → 1 ≤ k → n < u * 10 ^ k → wU j n u ≤ u * 10 ^ (k - 1)
  | 0, u, k, hu, hk, h => by
    rw [wU]
    exact Nat.le_mul_of_pos_right _ (Nat.pos_of_ne_zero (by simp))
  | j + 1, u, k, hu, hk, h => by
    unfold wU
    by_cases z : 10 ≤ n / u
    · rw [if_pos z]
      have h10 : 10 * u ≤ n := (Nat.le_div_iff_mul_le hu).mp z
      by_cases k1 : k = 1
      · subst k1
        rw [Nat.pow_one] at h
        omega
      · obtain ⟨m, rfl⟩ : ∃ m, k = m + 2 := ⟨k - 2, by omega⟩
        have e : u * 10 ^ (m + 2) = u * 10 * 10 ^ (m + 1) := by rw [Nat.pow_succ, Nat.mul_comm (10 ^ (m + 1)) 10, Nat.mul_assoc]
        have ih := wU_le (n := n) j (u * 10) (m + 1) (by omega) (by omega) (by rw [← e]; exact h)
        have e2 : u * 10 ^ (m + 2 - 1) = u * 10 * 10 ^ (m + 1 - 1) := by
          rw [show m + 2 - 1 = m + 1 by omega, show m + 1 - 1 = m by omega, Nat.pow_succ, Nat.mul_comm (10 ^ m) 10, Nat.mul_assoc]
        rw [e2]; exact ih
    · rw [if_neg z]
      exact Nat.le_mul_of_pos_right _ (Nat.pos_of_ne_zero (by simp))
theorem wD_le {n : Nat} : ∀ f u k, u < 10 ^ k → (wD f n u).length ≤ k
  | 0, _, _, _ => Nat.zero_le _
  | f + 1, u, k, h => by
    unfold wD
    by_cases z : u = 0
    · rw [if_pos z]; exact Nat.zero_le _
    · rw [if_neg z, List.length_cons]
      by_cases k0 : k = 0
      · subst k0; rw [Nat.pow_zero] at h; omega
      · obtain ⟨m, rfl⟩ : ∃ m, k = m + 1 := ⟨k - 1, by omega⟩
        rw [Nat.pow_succ] at h
        have := wD_le (n := n) f (u / 10) m (by omega)
        omega
/-- a number prints no longer than it was written -/
theorem wS_le {n k : Nat} (hk : 1 ≤ k) (h : n < 10 ^ k) : (wS n).length ≤ k := by
  have u := wU_le (n := n) 9 1 k (by omega) hk (by rw [Nat.one_mul]; exact h)
  rw [Nat.one_mul] at u
  refine wD_le 10 _ k ?_
  obtain ⟨m, rfl⟩ : ∃ m, k = m + 1 := ⟨k - 1, by omega⟩
  rw [show m + 1 - 1 = m by omega] at u
  have p : 0 < 10 ^ m := Nat.pos_of_ne_zero (by simp)
  rw [Nat.pow_succ]
  omega
theorem nF_le {r k : Nat} (hr : r < 1000) (h : k ≤ 3) (hz : r % 10 ^ (3 - k) = 0) : (nF r).length ≤ k + 1 := by
  unfold nF
  by_cases z : r = 0
  · rw [if_pos z]; exact Nat.zero_le _
  · rw [if_neg z]
    have ks : k = 0 ∨ k = 1 ∨ k = 2 ∨ k = 3 := by omega
    rcases ks with rfl | rfl | rfl | rfl
    · have : r % 1000 = 0 := hz
      omega
    · have z1 : r % 100 = 0 := hz
      rw [if_pos z1]; exact Nat.le_refl _
    · have z2 : r % 10 = 0 := hz
      by_cases z1 : r % 100 = 0
      · rw [if_pos z1]; exact Nat.le_of_ble_eq_true rfl
      · rw [if_neg z1, if_pos z2]; exact Nat.le_refl _
    · by_cases z1 : r % 100 = 0
      · rw [if_pos z1]; exact Nat.le_of_ble_eq_true rfl
      · rw [if_neg z1]
        by_cases z2 : r % 10 = 0
        · rw [if_pos z2]; exact Nat.le_of_ble_eq_true rfl
        · rw [if_neg z2]; exact Nat.le_refl _
end Rx
