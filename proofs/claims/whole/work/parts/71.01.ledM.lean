/-! THE LEDGER: the model's methods -/
section LEM
variable {xs : Nat → Int32} {xl d : Nat} {M : dp_M}
theorem lm_ix20 {b k : Nat} : (20 : Int32) * nI b + nI k = nI (b * 20 + k) := by rw [show (20 : Int32) = nI 20 from rfl, pk_mul, nI_add, Nat.mul_comm]
theorem lm_20 {b : Nat} : (20 : Int32) * nI b = nI (b * 20) := by rw [show (20 : Int32) = nI 20 from rfl, pk_mul, Nat.mul_comm]
theorem lm_day {v : Int32} : dp_den true xs xl (d + 2) 540 [.int v] M = iR (bI (qin v 100001)) M := by
  rw [D_X12_isLedgerDay_0_den, D_X12_isLedgerDay_0_eq]
  exact q_mc (by decide)
theorem lm_acc {v : Int32} : dp_den true xs xl (d + 1) 541 [.int v] M = iR (bI (qin v 12)) M := by
  rw [D_X12_isAccount_0_den, D_X12_isAccount_0_eq]
  exact q_mr rfl (by omega)
theorem lm_open {v : Int32} {B : Nat} (hB : dp_I M 114 141 = nI B) (h : B ≤ 800) : dp_den true xs xl (d + 1) 543 [.ref 114, .int v] M = iR (bI (qin v B ∧ dp_I M 221 v.toNatClampNeg = 0)) M := by
  rw [D_X12_isOpenBatch_0_den, D_X12_isOpenBatch_0_eq, hB]
  rcases pk_ix v (show B < 2 ^ 31 by omega) with q | q | ⟨j, q, rfl⟩
  · rw [if_pos q]; simp [bI, q]
  · rw [if_neg (q_ge0 q (by omega)), if_pos q]
    have : ¬ qin v B := q_nin q (by omega)
    simp [bI, this]
  · rw [if_neg (nI_pos (by omega)), if_neg (nI_nge q (by omega)), if_neg (nI_inn (show j < 801 by omega) (by omega))]
    have := qin_nI q (show B < 2147483648 by omega)
    split <;> simp_all [bI]
theorem lm_begins {v1 v2 v3 : Int32} {B : Nat} (h1 : v1 = nI B) (h : B < 801) : dp_den true xs xl (d + 1) 544 [.ref 114, .int v1, .int v2, .int v3] M =
    vR (dp_setI (dp_setI (dp_setI (dp_setI (dp_setI (dp_setI (dp_setI M 221 B 0) 222 B v2) 223 B v3) 224 B (-1)) 225 B (-1)) 226 B 0) 227 B 0) := by
  subst h1
  rw [D_X12_beginsBatch_0_den, D_X12_beginsBatch_0_eq]
  simp only [dp_w, nI_cl (show B < 2147483648 by omega), nI_o h (by omega), if_false]
  rfl
theorem lm_enters {v1 v2 : Int32} {v3 : Int64} {b n : Nat} (h1 : v1 = nI b) (hb : b < 801) (hn : dp_I M 227 b = nI n) (h20 : n < 20) (hv : v3 ≠ 0) : dp_den true xs xl (d + 1) 545 [.ref 114, .int v1, .int v2, .long v3] M =
    vR (dp_setI (dp_setJ (dp_setI M 228 (b * 20 + n) v2) 229 (b * 20 + n) v3) 227 b (nI (n + 1))) := by
  subst h1
  rw [D_X12_enters_0_den, D_X12_enters_0_eq]
  simp only [lg_cmp_eq, if_neg hv, dp_w, nI_cl (show b < 2147483648 by omega), nI_o hb (by omega), gII, gIJ, Nat.reduceEqDiff, if_false, hn, lm_ix20, nI_cl (show b * 20 + n < 2147483648 by omega), nI_o (show b * 20 + n < 16020 by omega) (by omega), nI_1]
theorem lm_enters0 {v1 v2 : Int32} : dp_den true xs xl (d + 1) 545 [.ref 114, .int v1, .int v2, .long 0] M = vR M := by
  rw [D_X12_enters_0_den, D_X12_enters_0_eq]
  simp only [lg_cmp_eq, if_true]
/-- a sum of entries, of all accounts or of one -/
theorem lm_sumIn {v1 v2 : Int32} {b n : Nat} (h1 : v1 = nI b) (hb : b < 801) (hn : dp_I M 227 b = nI n) (h20 : n ≤ 20) : dp_den true xs xl (d + 1) 549 [.ref 114, .int v1, .int v2] M = lR (sl (fun i => if v2 = -1 ∨ dp_I M 228 (b * 20 + i) = v2 then dp_J M 229 (b * 20 + i) else 0) n) M := by
  subst h1
  rw [D_X12_sumIn_0_den, D_X12_sumIn_0_eq]
  simp only [dp_w, lm_20]
  refine lp_sl (F := fun n i => D_X12_sumIn_8 xs xl d (nI b) v2 n (nI (b * 20 + i)) M) _ (fun a => ?_) (fun i a r hi hr => ?_)
  · show D_X12_sumIn_8 xs xl d (nI b) v2 _ (nI (b * 20 + n)) M = _
    rw [D_X12_sumIn_8_eq, if_neg (nI_inn hb (by omega)), nI_cl (by omega), hn, lm_ix20, if_pos (nI_lle (Nat.le_refl _) (by omega))]
  · (try dsimp only at hr); (try dsimp only)
    rw [← Nat.add_assoc] at hr
    rw [D_X12_sumIn_8_eq, if_neg (nI_inn hb (by omega)), nI_cl (show b < 2147483648 by omega), hn, lm_ix20, if_neg (nI_nge (by omega) (by omega))]
    simp only [nI_cl (show b * 20 + i < 2147483648 by omega), nI_o (show b * 20 + i < 16020 by omega) (by omega), if_false, nI_1, dp_w]
    by_cases h1 : v2 = -1
    · simpa [h1] using hr
    · by_cases h2 : dp_I M 228 (b * 20 + i) = v2
      · simpa [h1, h2] using hr
      · simpa [h1, h2] using hr
end LEM
