/-! MATHEMATICS (6): numbers between two -/
abbrev wi (v : Int32) (a b : Int) : Prop := a ≤ v.toInt ∧ v.toInt ≤ b
theorem wi_64 {v : Int32} {a b : Int64} (x y : Int) (hx : a.toInt = x) (hy : b.toInt = y) : (a ≤ v.toInt64 ∧ v.toInt64 ≤ b) = wi v x y := by
  apply propext
  rw [Int64.le_iff_toInt_le, Int64.le_iff_toInt_le, Int32.toInt_toInt64, hx, hy]
theorem wi_nI {v : Int32} {a : Int64} {n : Nat} (x : Int) (hx : a.toInt = x) (hn : n < 2147483648) : (a ≤ v.toInt64 ∧ v.toInt64 ≤ (nI n).toInt64) = wi v x n := by
  apply propext
  rw [Int64.le_iff_toInt_le, Int64.le_iff_toInt_le, Int32.toInt_toInt64, Int32.toInt_toInt64, hx, nI_toInt hn]
theorem wi_of {v : Int32} {a b : Nat} (h : wi v a b) (hb : b < 2147483648) : ∃ j : Nat, a ≤ j ∧ j ≤ b ∧ v = nI j := by
  refine ⟨v.toInt.toNat, by omega, by omega, ?_⟩
  rw [← Int32.toInt_inj, nI_toInt (by omega)]
  omega
theorem wi_mk {j : Nat} {a b : Int} (h1 : a ≤ (j : Int)) (h2 : (j : Int) ≤ b) (hj : j < 2147483648) : wi (nI j) a b := by
  rw [wi, nI_toInt hj]; exact ⟨h1, h2⟩
theorem wi_qin {v : Int32} {n : Nat} : qin v n ↔ wi v 0 ((n : Int) - 1) := by
  rw [qin_iff]
  constructor
  · intro h; exact ⟨h.1, by omega⟩
  · intro h; exact ⟨h.1, by have := h.2; omega⟩
theorem rb_ok {c : Prop} [Decidable c] {M : dp_M} : (if bI c = 0 ∨ bI c = 1 then some (Sum.inl (some (Value.int (bI c))), M) else none : Option dp_Res) = iR (bI c) M := by
  rw [if_pos (by rw [bI_01]; trivial)]
theorem bI_t {c : Prop} [Decidable c] (h : c) : bI c = 1 := if_pos h
theorem bI_f {c : Prop} [Decidable c] (h : ¬ c) : bI c = 0 := if_neg h
theorem ibb {c : Prop} [Decidable c] {M : dp_M} : (if c then iR 1 M else iR 0 M) = iR (bI c) M := by split <;> simp [bI, *]
