/-! SECURITIES: reservation -/
section SG
variable {xs : Nat → Int32} {xl d : Nat} {M : dp_M}
theorem t_12 {r k : Nat} : nI r * (12 : Int32) + nI k = nI (r * 12 + k) := by rw [show (12 : Int32) = nI 12 from rfl, pk_mul, nI_add]
/-- which facts a reservation of n parts has -/
def hf (n k : Nat) : Prop := k < 4 ∨ (4 ≤ k ∧ k < 8 ∧ k - 4 < n) ∨ (8 ≤ k ∧ k < 12 ∧ k - 8 < n)
theorem sc_parts {r n : Nat} (hr : r < 401) (hn : n ≤ 4) (h : dp_J M 96 (r * 12 + 3) = (nI n).toInt64) : dp_den true xs xl (d + 1) 199 [.ref 90, .int (nI r)] M = iR (nI n) M := by
  rw [D_X8_partsOf_0_den, D_X8_partsOf_0_eq]
  have e : nI r * (12 : Int32) + 3 = nI (r * 12 + 3) := t_12 (k := 3)
  simp only [e, nI_cl (show r * 12 + 3 < 2147483648 by omega), nI_o (show r * 12 + 3 < 4812 by omega) (by omega), if_false, h]
  have : ((nI n).toInt64).toInt32 = nI n := by
    have hn' : n = 0 ∨ n = 1 ∨ n = 2 ∨ n = 3 ∨ n = 4 := by omega
    rcases hn' with rfl | rfl | rfl | rfl | rfl <;> rfl
  rw [this]
theorem sc_has {r n k : Nat} (hr : r < 401) (hn : n ≤ 4) (hk : k < 12) (h : dp_J M 96 (r * 12 + 3) = (nI n).toInt64) : ∃ b : Int32, dp_den true xs xl (d + 2) 197 [.ref 90, .int (nI r), .int (nI k)] M = iR b M ∧ (b = 0 ∨ b = 1) ∧ (b = 1 ↔ hf n k) := by
  rw [D_X8_hasFact_0_den, D_X8_hasFact_0_eq, if_neg (nI_pos (by omega))]
  have go : ∀ q, q < 8 → ∃ b : Int32, D_X8_hasFact_27 xs xl (d + 1) (nI r) (nI k) (nI q) M = iR b M ∧ (b = 0 ∨ b = 1) ∧ (b = 1 ↔ q < n) := fun q hq => by
    rw [D_X8_hasFact_27_eq, if_neg (nI_pos (by omega)), sc_parts hr hn h, rb_bi]
    by_cases z : n ≤ q
    · rw [if_pos (nI_lle z (by omega))]
      exact ⟨0, rfl, Or.inl rfl, fun w => absurd w (by decide), fun w => by omega⟩
    · rw [if_neg (nI_nge (by omega) (by omega))]
      exact ⟨1, rfl, Or.inr rfl, fun _ => by omega, fun _ => rfl⟩
  by_cases z1 : k < 4
  · rw [if_neg (show ¬ (3 : Int32) < nI (k) from nI_nlt (a := 3) (b := k) (by omega) (by omega))]
    exact ⟨1, rfl, Or.inr rfl, fun _ => Or.inl z1, fun _ => rfl⟩
  · rw [if_pos (show (3 : Int32) < nI (k) from nI_lt (a := 3) (b := k) (by omega) (by omega))]
    by_cases z2 : k < 8
    · rw [if_neg (show ¬ (8 : Int32) ≤ nI (k) from nI_ge (a := k) (b := 8) (by omega) (by omega))]
      have e : nI k - 4 = nI (k - 4) := by
        have : ∀ k, 4 ≤ k → k < 12 → nI k - 4 = nI (k - 4) := by
          intro k h1 h2
          have : k = 4 ∨ k = 5 ∨ k = 6 ∨ k = 7 ∨ k = 8 ∨ k = 9 ∨ k = 10 ∨ k = 11 := by omega
          rcases this with rfl | rfl | rfl | rfl | rfl | rfl | rfl | rfl <;> rfl
        exact this k (by omega) hk
      rw [e]
      obtain ⟨b, h1, h2, h3⟩ := go (k - 4) (by omega)
      refine ⟨b, h1, h2, h3.trans ?_⟩
      unfold hf; omega
    · rw [if_pos (show (8 : Int32) ≤ nI (k) from nI_le (a := 8) (b := k) (by omega) (by omega))]
      have e : nI k - 8 = nI (k - 8) := by
        have : k = 8 ∨ k = 9 ∨ k = 10 ∨ k = 11 := by omega
        rcases this with rfl | rfl | rfl | rfl <;> rfl
      rw [e]
      obtain ⟨b, h1, h2, h3⟩ := go (k - 8) (by omega)
      refine ⟨b, h1, h2, h3.trans ?_⟩
      unfold hf; omega
end SG
