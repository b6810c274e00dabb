/-! THE LEDGER: what is passed on: the class -/
def kd (a : Nat) : Int32 := if a < 8 then 0 else if a = 8 then 1 else if a = 9 then 2 else 3
def mx0 (x : Int64) : Int64 := if x < 0 then 0 else x
/-- the sum of a kind of account -/
def SK (M : dp_M) (v1 v2 : Int32) (E : Nat) : Int64 := sl (fun a => if kd a = v1 then sl (sumF M (nI a) 0 100000 v2) E else 0) 12
/-- all parts of a kind -/
def pA (P : Nat → Int64) : Int64 := sl P 4
/-- what one receiver gets of a pot -/
def shr (P : Nat → Int64) (pot : Int64) (r : Nat) : Int64 := if pA P = 0 then 0 else pot * P r / pA P + (if (cb (fun i => (pot * P i - pot * P i / pA P * pA P).toInt) r : Int) < (pot - sl (fun i => pot * P i / pA P) 4).toInt then 1 else 0)
section LEZ
variable {xs : Nat → Int32} {xl d : Nat} {M : dp_M}
theorem lc_kindOf {a : Nat} (h : a < 12) : dp_den true xs xl (d + 1) 98 [.int (nI a)] M = iR (kd a) M := by
  rw [D_X3_kindOf_0_den, D_X3_kindOf_0_eq]
  have : a = 0 ∨ a = 1 ∨ a = 2 ∨ a = 3 ∨ a = 4 ∨ a = 5 ∨ a = 6 ∨ a = 7 ∨ a = 8 ∨ a = 9 ∨ a = 10 ∨ a = 11 := by omega
  rcases this with rfl | rfl | rfl | rfl | rfl | rfl | rfl | rfl | rfl | rfl | rfl | rfl <;> rfl
theorem lm_kindOf {a : Nat} (h : a < 12) : dp_den true xs xl (d + 1) 542 [.int (nI a)] M = iR (kd a) M := by
  rw [D_X12_kindOfAccount_0_den, D_X12_kindOfAccount_0_eq]
  have : a = 0 ∨ a = 1 ∨ a = 2 ∨ a = 3 ∨ a = 4 ∨ a = 5 ∨ a = 6 ∨ a = 7 ∨ a = 8 ∨ a = 9 ∨ a = 10 ∨ a = 11 := by omega
  rcases this with rfl | rfl | rfl | rfl | rfl | rfl | rfl | rfl | rfl | rfl | rfl | rfl <;> rfl
theorem lc_sumKind {v1 v2 : Int32} {E : Nat} (hE4 : E ≤ 4000) (hE : dp_I M 97 1 = nI E) (hp : ∀ i, i < E → LEn M i) : dp_den true xs xl (d + 3) 99 [.ref 97, .int v1, .int v2] M = lR (mx0 (SK M v1 v2 E)) M := by
  rw [D_X3_sumOfKind_0_den, D_X3_sumOfKind_0_eq]
  simp only [dp_w]
  refine lpb (F := fun a i => D_X3_sumOfKind_5 xs xl (d + 2) v1 v2 a (nI i) M) (s := sl (fun a => if kd a = v1 then sl (sumF M (nI a) 0 100000 v2) E else 0)) (N := 12) ?_ (fun i hi hr => ?_)
  · show D_X3_sumOfKind_5 xs xl (d + 2) v1 v2 _ (nI 12) M = _
    rw [D_X3_sumOfKind_5_eq, if_pos (by decide)]; rfl
  · (try dsimp only at hr); (try dsimp only)
    rw [D_X3_sumOfKind_5_eq, if_neg (show ¬ (12 : Int32) ≤ nI (i) from nI_ge (a := i) (b := 12) (by omega) (by omega)), lc_kindOf hi, rb_bi]
    simp only [dp_w, nI_1]
    have hr' : D_X3_sumOfKind_5 xs xl (d + 2) v1 v2 (sl (fun a => if kd a = v1 then sl (sumF M (nI a) 0 100000 v2) E else 0) i + (if kd i = v1 then sl (sumF M (nI i) 0 100000 v2) E else 0)) (nI (i + 1)) M = _ := hr
    by_cases c : kd i = v1
    · rw [if_pos c, lc_sum hE4 hE hp, rb_bl]; rw [if_pos c] at hr'; exact hr'
    · rw [if_neg c]; rw [if_neg c] at hr'; exact hr'
/-- the first of the greatest of four longs -/
def g4 (f : Nat → Int64) : Nat → Nat
  | 0 => 0
  | i + 1 => if f (g4 f i) < f (i + 1) then i + 1 else g4 f i
theorem g4_s (f : Nat → Int64) : ∀ i, g4 f i ≤ i ∧ (∀ r, r ≤ i → (f r).toInt ≤ (f (g4 f i)).toInt) ∧ ∀ r, r < g4 f i → (f r).toInt < (f (g4 f i)).toInt
  | 0 => ⟨Nat.le_refl _, fun r hr => by rw [show r = 0 by omega]; exact Int.le_refl _, fun r hr => by simp [g4] at hr⟩
  | i + 1 => by
    obtain ⟨h1, h2, h3⟩ := g4_s f i
    rw [g4]
    split
    · rename_i c
      rw [Int64.lt_iff_toInt_lt] at c
      refine ⟨Nat.le_refl _, fun r hr => ?_, fun r hr => ?_⟩
      · by_cases e : r = i + 1
        · rw [e]; exact Int.le_refl _
        · have := h2 r (by omega); omega
      · have := h2 r (by omega); omega
    · rename_i c
      have c' := Int64.not_lt.mp c
      rw [Int64.le_iff_toInt_le] at c'
      refine ⟨by omega, fun r hr => ?_, h3⟩
      by_cases e : r = i + 1
      · rw [e]; exact c'
      · exact h2 r (by omega)
theorem lc_more : dp_den true xs xl (d + 1) 102 [.ref 97] M = vR (dp_setJ (dp_setJ M 106 (g4 (dp_J M 107) 3) (dp_J M 106 (g4 (dp_J M 107) 3) + 1)) 107 (g4 (dp_J M 107) 3) (-1)) := by
  rw [D_X3_giveOneMore_0_den, D_X3_giveOneMore_0_eq]
  simp only [dp_w]
  refine lpa (F := fun (g : Nat) i => D_X3_giveOneMore_4 xs xl d (nI g) (nI (i + 1)) M) (s := g4 (dp_J M 107)) (a := 0) (N := 3) (by omega) ?_ (fun i _ hi hr => ?_)
  · show D_X3_giveOneMore_4 xs xl d (nI (g4 (dp_J M 107) 3)) (nI 4) M = _
    have hg := (g4_s (dp_J M 107) 3).1
    rw [D_X3_giveOneMore_4_eq, if_pos (by decide)]
    simp only [nI_cl (show g4 (dp_J M 107) 3 < 2147483648 by omega), nI_o (show g4 (dp_J M 107) 3 < 4 by omega) (by omega), if_false, dp_w]
  · (try dsimp only at hr); (try dsimp only)
    have hg := (g4_s (dp_J M 107) i).1
    rw [D_X3_giveOneMore_4_eq, if_neg (show ¬ (4 : Int32) ≤ nI (i + 1) from nI_ge (a := i + 1) (b := 4) (by omega) (by omega))]
    simp only [nI_cl (show i + 1 < 2147483648 by omega), nI_o (show i + 1 < 4 by omega) (by omega), nI_cl (show g4 (dp_J M 107) i < 2147483648 by omega), nI_o (show g4 (dp_J M 107) i < 4 by omega) (by omega), if_false, dp_w, nI_1, lg_cmp_le]
    rw [g4] at hr
    by_cases c : dp_J M 107 (i + 1) ≤ dp_J M 107 (g4 (dp_J M 107) i)
    · rw [if_pos c]; rw [if_neg (Int64.not_lt.mpr c)] at hr; exact hr
    · rw [if_neg c]; rw [if_pos (Int64.not_le.mp c)] at hr; exact hr
theorem sl4 (f : Nat → Int64) : sl f 4 = 0 + f 0 + f 1 + f 2 + f 3 := rfl
theorem q_sub3 (a b c : Int64) : a - b - c = a - (b + c) := by
  rw [Int64.sub_eq_add_neg, Int64.sub_eq_add_neg, Int64.sub_eq_add_neg, Int64.neg_add, Int64.sub_eq_add_neg, Int64.add_assoc]
/-- what the division leaves is less than four -/
theorem deal_left {P : Nat → Int64} {pot : Int64} (h0 : 0 ≤ pot.toInt) (h1 : pot.toInt ≤ 48000000000000) (hP : ∀ i, 0 ≤ (P i).toInt ∧ (P i).toInt ≤ 1000) (hA : 0 < (pA P).toInt) :
    (pA P).toInt = (P 0).toInt + (P 1).toInt + (P 2).toInt + (P 3).toInt ∧ (∀ i, 0 ≤ (pot * P i - pot * P i / pA P * pA P).toInt) ∧ 0 ≤ (pot - sl (fun i => pot * P i / pA P) 4).toInt ∧ (pot - sl (fun i => pot * P i / pA P) 4).toInt ≤ 3 := by
  have p0 := hP 0
  have p1 := hP 1
  have p2 := hP 2
  have p3 := hP 3
  have eA : (pA P).toInt = (P 0).toInt + (P 1).toInt + (P 2).toInt + (P 3).toInt := by
    unfold pA
    rw [sl4, Int64.zero_add]
    have e1 : (P 0 + P 1).toInt = (P 0).toInt + (P 1).toInt := q_addJ (by omega) (by omega)
    have e2 : (P 0 + P 1 + P 2).toInt = (P 0).toInt + (P 1).toInt + (P 2).toInt := by rw [q_addJ (by omega) (by omega), e1]
    rw [q_addJ (by omega) (by omega), e2]
  have hx : ∀ i, (pot * P i).toInt = pot.toInt * (P i).toInt ∧ 0 ≤ pot.toInt * (P i).toInt ∧ pot.toInt * (P i).toInt ≤ 48000000000000000 := fun i => by
    have hi := hP i
    have h2 : 0 ≤ pot.toInt * (P i).toInt := Int.mul_nonneg h0 hi.1
    have h3 : pot.toInt * (P i).toInt ≤ 48000000000000 * 1000 := Int.mul_le_mul h1 hi.2 hi.1 (by omega)
    exact ⟨q_mulJ (by omega) (by omega), h2, by omega⟩
  have hq : ∀ i, (pot * P i / pA P).toInt = pot.toInt * (P i).toInt / (pA P).toInt := fun i => by
    rw [q_divJ (by rw [(hx i).1]; exact (hx i).2.1) hA, (hx i).1]
  have hm : ∀ i, (pot * P i - pot * P i / pA P * pA P).toInt = pot.toInt * (P i).toInt % (pA P).toInt := fun i => by
    rw [q_remJ (by rw [(hx i).1]; exact (hx i).2.1) hA, (hx i).1]
  have hmp : ∀ i, 0 ≤ pot.toInt * (P i).toInt % (pA P).toInt ∧ pot.toInt * (P i).toInt % (pA P).toInt < (pA P).toInt := fun i => ⟨Int.emod_nonneg _ (by omega), Int.emod_lt_of_pos _ hA⟩
  have hqp : ∀ i, 0 ≤ pot.toInt * (P i).toInt / (pA P).toInt ∧ pot.toInt * (P i).toInt / (pA P).toInt ≤ 48000000000000000 := fun i => ⟨Int.ediv_nonneg (hx i).2.1 (by omega), Int.le_trans (Int.ediv_le_self _ (hx i).2.1) (hx i).2.2⟩
  refine ⟨eA, fun i => by rw [hm i]; exact (hmp i).1, ?_⟩
  have eS : (sl (fun i => pot * P i / pA P) 4).toInt = pot.toInt * (P 0).toInt / (pA P).toInt + pot.toInt * (P 1).toInt / (pA P).toInt + pot.toInt * (P 2).toInt / (pA P).toInt + pot.toInt * (P 3).toInt / (pA P).toInt := by
    rw [sl4, Int64.zero_add]
    have b0 := hqp 0
    have b1 := hqp 1
    have b2 := hqp 2
    have b3 := hqp 3
    rw [← hq 0] at b0 ⊢
    rw [← hq 1] at b1 ⊢
    rw [← hq 2] at b2 ⊢
    rw [← hq 3] at b3 ⊢
    have e1 : (pot * P 0 / pA P + pot * P 1 / pA P).toInt = (pot * P 0 / pA P).toInt + (pot * P 1 / pA P).toInt := q_addJ (by omega) (by omega)
    have e2 : (pot * P 0 / pA P + pot * P 1 / pA P + pot * P 2 / pA P).toInt = (pot * P 0 / pA P).toInt + (pot * P 1 / pA P).toInt + (pot * P 2 / pA P).toInt := by rw [q_addJ (by omega) (by omega), e1]
    rw [q_addJ (by omega) (by omega), e2]
  have d0 := Int.mul_ediv_add_emod (pot.toInt * (P 0).toInt) (pA P).toInt
  have d1 := Int.mul_ediv_add_emod (pot.toInt * (P 1).toInt) (pA P).toInt
  have d2 := Int.mul_ediv_add_emod (pot.toInt * (P 2).toInt) (pA P).toInt
  have d3 := Int.mul_ediv_add_emod (pot.toInt * (P 3).toInt) (pA P).toInt
  have m0 := hmp 0
  have m1 := hmp 1
  have m2 := hmp 2
  have m3 := hmp 3
  have b0 := hqp 0
  have b1 := hqp 1
  have b2 := hqp 2
  have b3 := hqp 3
  generalize hS : pot.toInt * (P 0).toInt / (pA P).toInt + pot.toInt * (P 1).toInt / (pA P).toInt + pot.toInt * (P 2).toInt / (pA P).toInt + pot.toInt * (P 3).toInt / (pA P).toInt = S at eS
  have tot : (pA P).toInt * (pot.toInt - S) = pot.toInt * (P 0).toInt % (pA P).toInt + pot.toInt * (P 1).toInt % (pA P).toInt + pot.toInt * (P 2).toInt % (pA P).toInt + pot.toInt * (P 3).toInt % (pA P).toInt := by
    have e1 : (pA P).toInt * pot.toInt = pot.toInt * (P 0).toInt + pot.toInt * (P 1).toInt + pot.toInt * (P 2).toInt + pot.toInt * (P 3).toInt := by
      rw [eA, Int.mul_comm, Int.mul_add, Int.mul_add, Int.mul_add]
    have e2 : (pA P).toInt * S = (pA P).toInt * (pot.toInt * (P 0).toInt / (pA P).toInt) + (pA P).toInt * (pot.toInt * (P 1).toInt / (pA P).toInt) + (pA P).toInt * (pot.toInt * (P 2).toInt / (pA P).toInt) + (pA P).toInt * (pot.toInt * (P 3).toInt / (pA P).toInt) := by
      rw [← hS, Int.mul_add, Int.mul_add, Int.mul_add]
    rw [Int.mul_sub, e1, e2]
    omega
  have hL : 0 ≤ pot.toInt - S ∧ pot.toInt - S ≤ 3 := by
    constructor
    · by_cases c : 0 ≤ pot.toInt - S
      · exact c
      · exfalso
        have : (pA P).toInt * (pot.toInt - S) ≤ (pA P).toInt * (-1) := Int.mul_le_mul_of_nonneg_left (by omega) (by omega)
        omega
    · by_cases c : pot.toInt - S ≤ 3
      · exact c
      · exfalso
        have : (pA P).toInt * 4 ≤ (pA P).toInt * (pot.toInt - S) := Int.mul_le_mul_of_nonneg_left (by omega) (by omega)
        omega
  have e3 : (pot - sl (fun i => pot * P i / pA P) 4).toInt = pot.toInt - S := by
    rw [q_subJ (by rw [eS]; omega) (by rw [eS]; omega), eS]
  rw [e3]; exact hL
end LEZ
