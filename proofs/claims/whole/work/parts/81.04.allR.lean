-- needs: 71 72 73 74 75 76 77 78 79 80
/-! ALL: the relations together -/
/-- the planner's rounds: what was seen was seen in a round that has been -/
def PlN (M : dp_M) (c : Nat) : Prop := ∃ r : Nat, r ≤ c ∧ dp_I M 14 10 = nI r ∧ ∀ i, ∃ x : Nat, x ≤ r ∧ dp_I M 16 i = nI x
theorem PlN_off {S T : List Nat} {M M' : dp_M} {c : Nat} (h : PlN M c) (o : Off S T M M') (hS : ∀ k ∈ [14, 16], k ∉ S) : PlN M' (c + 1) := by
  have e14 := (o.1 14 (by decide) (hS 14 (by decide)) (by decide)).1
  have e16 := (o.1 16 (by decide) (hS 16 (by decide)) (by decide)).1
  obtain ⟨r, h1, h2, h3⟩ := h
  exact ⟨r, by omega, by rw [e14]; exact h2, fun i => by rw [e16]; exact h3 i⟩
def AR (M : dp_M) (n B T c : Nat) : Prop := PR M n B T c ∧ RelL M ∧ RelQ M ∧ RelT M ∧ RelR M ∧ RelS M ∧ RelD M ∧ PlN M c
