/-! BITS -/
def tb (v : Int32) (j : Nat) : Bool := v.toBitVec.getLsbD j
theorem tb_n31 : ∀ j, j < 32 → nI j &&& 31 = nI j := by decide
theorem tb_n31s : ∀ j, j < 32 → ((nI j).toBitVec.smod 32#32).toNat = j := by decide
theorem tb_a1 (x : BitVec 32) : (x &&& 1#32 = 1#32) ↔ x.getLsbD 0 = true := by
  rw [BitVec.and_one_eq_setWidth_ofBool_getLsbD]
  cases x.getLsbD 0 <;> decide
theorem tb_sh {v : Int32} {j : Nat} (h : j < 32) : (((v >>> (nI j &&& 31)) &&& 1) = (1 : Int32)) ↔ tb v j = true := by
  rw [tb_n31 j h, ← Int32.toBitVec_inj, Int32.toBitVec_and, Int32.toBitVec_shiftRight]
  have e : (1 : Int32).toBitVec = 1#32 := rfl
  rw [e, tb_a1]
  unfold tb
  rw [show ∀ (a b : BitVec 32), a.sshiftRight' b = a.sshiftRight b.toNat from fun a b => rfl, BitVec.getLsbD_sshiftRight]
  have e2 : ((nI j).toBitVec.smod 32).toNat = j := tb_n31s j h
  rw [e2]
  simp [h]
theorem tb_or {a b : Int32} {j : Nat} : tb (a ||| b) j = (tb a j || tb b j) := by
  unfold tb; rw [Int32.toBitVec_or, BitVec.getLsbD_or]
theorem tb_and {a b : Int32} {j : Nat} : tb (a &&& b) j = (tb a j && tb b j) := by
  unfold tb; rw [Int32.toBitVec_and, BitVec.getLsbD_and]
theorem tb_0 {j : Nat} : tb 0 j = false := by
  unfold tb; simp
theorem tb_one1 : ∀ a, a < 32 → ∀ j, j < 32 → tb ((1 : Int32) <<< (nI a &&& 31)) j = decide (j = a) := by decide
theorem tb_one {a j : Nat} (h : a < 32) (hj : j < 32) : tb ((1 : Int32) <<< (nI a &&& 31)) j = decide (j = a) := tb_one1 a h j hj
theorem tb_ge {v : Int32} {j : Nat} (h : 32 ≤ j) : tb v j = false := by
  unfold tb; exact BitVec.getLsbD_of_ge _ _ h
theorem tb_ext {a b : Int32} (h : ∀ j, j < 32 → tb a j = tb b j) : a = b := by
  rw [← Int32.toBitVec_inj]
  exact BitVec.eq_of_getLsbD_eq (fun i hi => h i hi)
