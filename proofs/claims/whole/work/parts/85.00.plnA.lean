-- needs: 71 72 73 74 75 76
/-! PLAN: places of up to four boxes in a code -/
section PnA
/-- the place of box i; a box put elsewhere -/
def pl (c i : Nat) : Nat := c / 16 ^ i % 16
def pu (c i p : Nat) : Nat := c - pl c i * 16 ^ i + p * 16 ^ i
theorem pl_lt (c i : Nat) : pl c i < 16 := Nat.mod_lt _ (by decide)
theorem pl_sp (c i : Nat) : c = 16 ^ i * (16 * (c / 16 ^ (i + 1)) + pl c i) + c % 16 ^ i := by
  unfold pl
  have e1 : c / 16 ^ (i + 1) = c / 16 ^ i / 16 := by rw [Nat.pow_succ, Nat.div_div_eq_div_mul]
  rw [e1, Nat.div_add_mod, Nat.div_add_mod]
theorem pu_sp (c i p : Nat) : pu c i p = 16 ^ i * (16 * (c / 16 ^ (i + 1)) + p) + c % 16 ^ i := by
  have e := pl_sp c i
  unfold pu
  have h1 : 16 ^ i * (16 * (c / 16 ^ (i + 1)) + pl c i) = 16 ^ i * (16 * (c / 16 ^ (i + 1))) + 16 ^ i * pl c i := Nat.mul_add _ _ _
  have h2 : 16 ^ i * (16 * (c / 16 ^ (i + 1)) + p) = 16 ^ i * (16 * (c / 16 ^ (i + 1))) + 16 ^ i * p := Nat.mul_add _ _ _
  have h3 : pl c i * 16 ^ i = 16 ^ i * pl c i := Nat.mul_comm _ _
  have h4 : p * 16 ^ i = 16 ^ i * p := Nat.mul_comm _ _
  omega
theorem pu_lt {c i p : Nat} (hc : c < 65536) (hi : i < 4) (hp : p < 16) : pu c i p < 65536 := by
  have e := pu_sp c i p
  have cs : i = 0 ∨ i = 1 ∨ i = 2 ∨ i = 3 := by omega
  rcases cs with rfl | rfl | rfl | rfl
  · rw [e]; simp only [show (16 : Nat) ^ 0 = 1 from rfl, show (16 : Nat) ^ (0 + 1) = 16 from rfl]; omega
  · rw [e]; simp only [show (16 : Nat) ^ 1 = 16 from rfl, show (16 : Nat) ^ (1 + 1) = 256 from rfl]; omega
  · rw [e]; simp only [show (16 : Nat) ^ 2 = 256 from rfl, show (16 : Nat) ^ (2 + 1) = 4096 from rfl]; omega
  · rw [e]; simp only [show (16 : Nat) ^ 3 = 4096 from rfl, show (16 : Nat) ^ (3 + 1) = 65536 from rfl]; omega
theorem pl_pu {c i j p : Nat} (hi : i < 4) (hj : j < 4) (hp : p < 16) : pl (pu c i p) j = if j = i then p else pl c j := by
  have e := pu_sp c i p
  have ci : i = 0 ∨ i = 1 ∨ i = 2 ∨ i = 3 := by omega
  have cj : j = 0 ∨ j = 1 ∨ j = 2 ∨ j = 3 := by omega
  unfold pl
  rcases ci with rfl | rfl | rfl | rfl <;> rcases cj with rfl | rfl | rfl | rfl <;>
    (rw [e]; first | rw [if_pos rfl] | rw [if_neg (by decide)]) <;>
    (simp only [show (16 : Nat) ^ 0 = 1 from rfl, show (16 : Nat) ^ 1 = 16 from rfl, show (16 : Nat) ^ 2 = 256 from rfl, show (16 : Nat) ^ 3 = 4096 from rfl, show (16 : Nat) ^ (0 + 1) = 16 from rfl, show (16 : Nat) ^ (1 + 1) = 256 from rfl, show (16 : Nat) ^ (2 + 1) = 4096 from rfl, show (16 : Nat) ^ (3 + 1) = 65536 from rfl]; omega)
/-- codes with the same places are the same -/
theorem pl_ext {c c' : Nat} (h : c < 65536) (h' : c' < 65536) (e : ∀ i, i < 4 → pl c i = pl c' i) : c = c' := by
  have e0 := e 0 (by omega)
  have e1 := e 1 (by omega)
  have e2 := e 2 (by omega)
  have e3 := e 3 (by omega)
  unfold pl at e0 e1 e2 e3
  simp only [show (16 : Nat) ^ 0 = 1 from rfl, show (16 : Nat) ^ 1 = 16 from rfl, show (16 : Nat) ^ 2 = 256 from rfl, show (16 : Nat) ^ 3 = 4096 from rfl] at e0 e1 e2 e3
  omega
theorem tb_n {N j : Nat} (hj : j < 32) : tb (nI N) j = N.testBit j := by
  unfold tb
  rw [nI_bv, BitVec.getLsbD_ofNat, decide_eq_true hj, Bool.true_and]
theorem i4 {i : Nat} : (4 : Int32) * nI i = nI (4 * i) := by rw [show (4 : Int32) = nI 4 from rfl, pk_mul]
theorem p16 (i : Nat) : (16 : Nat) ^ i = 2 ^ (4 * i) := by rw [Nat.pow_mul]
theorem c_pl {c i : Nat} (hc : c < 65536) (hi : i < 4) : (nI c >>> (((4 : Int32) * nI i) &&& 31)) &&& (15 : Int32) = nI (pl c i) := by
  have : c / 2 ^ (4 * i) ≤ c := Nat.div_le_self _ _
  rw [i4, nI_shr (by omega) (by omega), show (15 : Int32) = nI 15 from rfl, nI_and (by omega) (by omega), show (15 : Nat) = 2 ^ 4 - 1 from rfl, Nat.and_two_pow_sub_one_eq_mod]
  unfold pl
  rw [p16]
theorem tst {h x lo k j : Nat} (hx : x < 16) (hl : lo < 2 ^ k) : (2 ^ k * (16 * h + x) + lo).testBit j = if j < k then lo.testBit j else if j - k < 4 then x.testBit (j - k) else h.testBit (j - k - 4) := by
  rw [Nat.testBit_two_pow_mul_add _ hl]
  by_cases z : j < k
  · rw [if_pos z, if_pos z]
  · rw [if_neg z, if_neg z, show (16 : Nat) = 2 ^ 4 from rfl, Nat.testBit_two_pow_mul_add _ hx]
theorem c_pu {c i p : Nat} (hc : c < 65536) (hi : i < 4) (hp : p < 16) : (nI c &&& (((15 : Int32) <<< (((4 : Int32) * nI i) &&& 31)) ^^^ (-1 : Int32))) ||| (nI p <<< (((4 : Int32) * nI i) &&& 31)) = nI (pu c i p) := by
  have mk : ∀ i, i < 4 → ∀ j, j < 32 → tb (((15 : Int32) <<< (((4 : Int32) * nI i) &&& 31)) ^^^ (-1 : Int32)) j = decide (j < 4 * i ∨ 4 ≤ j - 4 * i) := by decide
  have pw : p * 2 ^ (4 * i) < 2147483648 := by
    have cs : i = 0 ∨ i = 1 ∨ i = 2 ∨ i = 3 := by omega
    rcases cs with rfl | rfl | rfl | rfl <;> (simp only [show (2 : Nat) ^ (4 * 0) = 1 from rfl, show (2 : Nat) ^ (4 * 1) = 16 from rfl, show (2 : Nat) ^ (4 * 2) = 256 from rfl, show (2 : Nat) ^ (4 * 3) = 4096 from rfl]; omega)
  refine tb_ext (fun j hj => ?_)
  rw [tb_or, tb_and, mk i hi j hj, i4, nI_shl pw (by omega), tb_n hj, tb_n hj, tb_n hj]
  have ec := pl_sp c i
  have eu := pu_sp c i p
  rw [p16 i] at ec eu
  have hl : c % 2 ^ (4 * i) < 2 ^ (4 * i) := Nat.mod_lt _ (Nat.two_pow_pos _)
  have ep : p * 2 ^ (4 * i) = 2 ^ (4 * i) * (16 * 0 + p) + 0 := by rw [Nat.mul_zero, Nat.zero_add, Nat.add_zero, Nat.mul_comm]
  have hc' : c.testBit j = if j < 4 * i then (c % 2 ^ (4 * i)).testBit j else if j - 4 * i < 4 then (pl c i).testBit (j - 4 * i) else (c / 16 ^ (i + 1)).testBit (j - 4 * i - 4) := by
    rw [← tst (pl_lt c i) hl, ← ec]
  rw [hc', eu, tst hp hl, ep, tst hp (Nat.two_pow_pos _), Nat.zero_testBit, Nat.zero_testBit]
  by_cases z : j < 4 * i
  · rw [if_pos z, if_pos z, if_pos z, decide_eq_true (Or.inl z), Bool.and_true, Bool.or_false]
  · rw [if_neg z, if_neg z, if_neg z]
    by_cases y : j - 4 * i < 4
    · rw [if_pos y, if_pos y, if_pos y, decide_eq_false (fun q => q.elim z (by omega)), Bool.and_false, Bool.false_or]
    · rw [if_neg y, if_neg y, if_neg y, decide_eq_true (Or.inr (by omega)), Bool.and_true, Bool.or_false]
end PnA
