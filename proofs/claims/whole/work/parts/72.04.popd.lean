/-! BITS: how many are set, by class and model -/
def bc (v : Int32) : Int32 :=
  let y1 := v - (((Int32.toUInt32 v >>> (Int32.toUInt32 1 &&& Int32.toUInt32 31)).toInt32) &&& 1431655765)
  let y2 := (y1 &&& 858993459) + (((Int32.toUInt32 y1 >>> (Int32.toUInt32 2 &&& Int32.toUInt32 31)).toInt32) &&& 858993459)
  let y3 := (y2 + ((Int32.toUInt32 y2 >>> (Int32.toUInt32 4 &&& Int32.toUInt32 31)).toInt32)) &&& 252645135
  let y4 := y3 + ((Int32.toUInt32 y3 >>> (Int32.toUInt32 8 &&& Int32.toUInt32 31)).toInt32)
  let y5 := y4 + ((Int32.toUInt32 y4 >>> (Int32.toUInt32 16 &&& Int32.toUInt32 31)).toInt32)
  y5 &&& 63
def nv (v : Int32) : Nat := v.toBitVec.toNat
theorem nv_and (a b : Int32) : nv (a &&& b) = nv a &&& nv b := by unfold nv; rw [Int32.toBitVec_and, BitVec.toNat_and]
theorem nv_add (a b : Int32) : nv (a + b) = (nv a + nv b) % 4294967296 := by unfold nv; rw [Int32.toBitVec_add, BitVec.toNat_add]
theorem nv_sub (a b : Int32) : nv (a - b) = (4294967296 - nv b + nv a) % 4294967296 := by unfold nv; rw [Int32.toBitVec_sub, BitVec.toNat_sub]
theorem nv_sh (a : Int32) (k : UInt32) (n : Nat) (h : k.toNat % 32 = n) : nv ((Int32.toUInt32 a >>> k).toInt32) = nv a >>> n := by
  show (Int32.toUInt32 a >>> k).toNat = _
  rw [UInt32.toNat_shiftRight, h]
  rfl
theorem nv_bc (v : Int32) : nv (bc v) = bcN (nv v) := by
  unfold bc bcN
  simp only [frc_eq, nv_and, nv_add, nv_sub]
  rw [show nv 1431655765 = 1431655765 from rfl, show nv 858993459 = 858993459 from rfl, show nv 252645135 = 252645135 from rfl, show nv 63 = 63 from rfl]
  simp only [nv_sh _ _ 1 (show (Int32.toUInt32 1 &&& Int32.toUInt32 31).toNat % 32 = 1 by decide), nv_sh _ _ 2 (show (Int32.toUInt32 2 &&& Int32.toUInt32 31).toNat % 32 = 2 by decide), nv_sh _ _ 4 (show (Int32.toUInt32 4 &&& Int32.toUInt32 31).toNat % 32 = 4 by decide), nv_sh _ _ 8 (show (Int32.toUInt32 8 &&& Int32.toUInt32 31).toNat % 32 = 8 by decide), nv_sh _ _ 16 (show (Int32.toUInt32 16 &&& Int32.toUInt32 31).toNat % 32 = 16 by decide), nv_and, nv_add, nv_sub]
  rfl
theorem nv_tb (v : Int32) (j : Nat) : tb v j = (nv v).testBit j := by unfold tb nv; rw [BitVec.testBit_toNat]
theorem nv_inj {a b : Int32} (h : nv a = nv b) : a = b := by
  rw [← Int32.toBitVec_inj]; exact BitVec.eq_of_toNat_eq h
theorem nv_lt {v : Int32} (h : ∀ j, 16 ≤ j → tb v j = false) : nv v < 65536 := by
  have := Nat.lt_pow_two_of_testBit (n := 16) (nv v) (fun i hi => by rw [← nv_tb]; exact h i hi)
  simpa using this
theorem nv_bit (x j : Nat) : (if x.testBit j = true then 1 else 0) = (x >>> j) % 2 := by
  rw [Nat.testBit, Nat.one_and_eq_mod_two]
  have := Nat.mod_two_eq_zero_or_one (x >>> j)
  rcases this with e | e <;> rw [e] <;> decide
theorem ct_hi {p : Nat → Bool} {a : Nat} : ∀ n, a ≤ n → (∀ i, a ≤ i → p i = false) → ct p n = ct p a
  | 0, h, _ => by rw [show a = 0 by omega]
  | n + 1, h, hp => by
    by_cases e : a = n + 1
    · rw [e]
    · rw [ct, ct_hi n (by omega) hp, hp n (by omega)]; simp
theorem pc_nv {v : Int32} (h : ∀ j, 16 ≤ j → tb v j = false) : pc v = pcK (nv v) := by
  unfold pc
  rw [ct_hi (a := 16) 32 (by omega) h]
  have : tb v = fun j => (nv v).testBit j := by funext j; exact nv_tb v j
  rw [this]
  simp only [ct, nv_bit]
  unfold pcK
  simp
theorem nv_nI {n : Nat} (h : n < 4294967296) : nv (nI n) = n := by
  unfold nv nI
  show (BitVec.ofNat 32 n).toNat = n
  rw [BitVec.toNat_ofNat]
  exact Nat.mod_eq_of_lt h
theorem bc_pc {v : Int32} (h : ∀ j, 16 ≤ j → tb v j = false) : bc v = nI (pc v) := by
  apply nv_inj
  have h32 : pc v < 4294967296 := by
    have := ct_le (tb v) 32
    unfold pc; omega
  rw [nv_nI h32, nv_bc, pc_nv h]
  exact Nat.eq_of_beq_eq_true (allB_s 16 0 bcN_16 (nv v) (by omega) (by have := nv_lt h; omega))
theorem pc_set {v : Int32} {b : Nat} (hb : b < 32) (h : tb v b = false) : pc (v ||| ((1 : Int32) <<< (nI b &&& 31))) = pc v + 1 := by
  have key : ∀ n, n ≤ 32 → ct (tb (v ||| ((1 : Int32) <<< (nI b &&& 31)))) n = ct (tb v) n + (if b < n then 1 else 0) := fun n => by
    induction n with
    | zero => intro _; rw [if_neg (by omega)]; rfl
    | succ n ih =>
      intro hn
      rw [ct, ct, ih (by omega), tb_or, tb_one hb (by omega)]
      by_cases e : n = b
      · subst e
        rw [h, if_neg (show ¬ n < n by omega), if_pos (show n < n + 1 by omega)]; simp
      · rw [decide_eq_false e, Bool.or_false]
        by_cases q : b < n
        · rw [if_pos q, if_pos (show b < n + 1 by omega)]; omega
        · rw [if_neg q, if_neg (show ¬ b < n + 1 by omega)]; omega
  have := key 32 (Nat.le_refl _)
  rw [if_pos hb] at this
  exact this
theorem four_set {v : Int32} {b : Nat} (hv : four v) (hb : b < 16) (h : tb v b = false) (h4 : pc v < 4) : four (v ||| ((1 : Int32) <<< (nI b &&& 31))) := by
  refine ⟨fun j hj => ?_, by rw [pc_set (by omega) h]; omega⟩
  by_cases q : j < 32
  · rw [tb_or, hv.1 j hj, tb_one (by omega) q, decide_eq_false (by omega)]; rfl
  · exact tb_ge (by omega)
section TC
variable {xs : Nat → Int32} {xl d : Nat} {M : dp_M}
theorem tj_bc {v : Int32} (h : ∀ j, 16 ≤ j → tb v j = false) : dp_den true xs xl (d + 1) 591 [.int v] M = iR (nI (pc v)) M := by
  rw [D_J6_bitCount_0f7a4_0_den, D_J6_bitCount_0f7a4_0_eq, ← bc_pc h]
  rfl
theorem tm_bits {v : Int32} : dp_den true xs xl (d + 1) 447 [.int v] M = iR (nI (pc v)) M := by
  rw [D_X12_bits_0_den, D_X12_bits_0_eq]
  simp only [dp_w]
  refine lpb (F := fun n k => D_X12_bits_4 xs xl d v (nI n) (nI k) M) (s := ct (tb v)) (N := 32) ?_ (fun k hk hr => ?_)
  · show D_X12_bits_4 xs xl d v (nI (pc v)) (nI 32) M = _
    rw [D_X12_bits_4_eq, if_pos (by decide)]
  · (try dsimp only at hr); (try dsimp only)
    rw [D_X12_bits_4_eq, if_neg (show ¬ (32 : Int32) ≤ nI (k) from nI_ge (a := k) (b := 32) (by omega) (by omega))]
    simp only [dp_w, nI_1]
    have e : (v >>> (nI k &&& 31)) &&& 1 = if tb v k = true then 1 else 0 := by
      have e1 := tb_sh (v := v) hk
      have e2 : (v >>> (nI k &&& 31)) &&& 1 = 0 ∨ (v >>> (nI k &&& 31)) &&& 1 = (1 : Int32) := by
        generalize v >>> (nI k &&& 31) = w
        rw [← Int32.toBitVec_inj, ← Int32.toBitVec_inj, Int32.toBitVec_and]
        have : (1 : Int32).toBitVec = 1#32 := rfl
        rw [this, BitVec.and_one_eq_setWidth_ofBool_getLsbD]
        cases w.toBitVec.getLsbD 0
        · left; rfl
        · right; rfl
      by_cases c : tb v k = true
      · rw [if_pos c]; exact e1.mpr c
      · rw [if_neg c]; exact e2.resolve_right (fun q => c (e1.mp q))
    rw [ct] at hr
    rw [e]
    by_cases c : tb v k = true
    · rw [if_pos c] at hr ⊢; rw [nI_1]; exact hr
    · rw [if_neg c] at hr ⊢; rw [Int32.add_zero]; exact hr
end TC
