-- needs: 71 72 73 74 75 76 77
/-! DECLARATIONS: an ask changed, the class's way -/
theorem cpJ_I (M : dp_M) (s a t b n : Nat) : dp_I (dp_cpJ M s a t b n) = dp_I M := id rfl
theorem cpJ_J (M : dp_M) (s a t b n k : Nat) : dp_J (dp_cpJ M s a t b n) k = if k = t then fN (dp_J M t) b n (fun j => dp_J M s (a + j)) else dp_J M k := by
  funext i
  show (if k = t ∧ b ≤ i ∧ i < b + n then dp_J M s (a + (i - b)) else dp_J M k i) = _
  by_cases z : k = t
  · subst z
    rw [if_pos rfl]; unfold fN
    by_cases y : b ≤ i ∧ i < b + n
    · rw [if_pos ⟨rfl, y⟩, if_pos y]
    · rw [if_neg (fun q => y q.2), if_neg y]
  · rw [if_neg (fun q => z q.1), if_neg z]
theorem cpJ_r (M' : dp_M) (s a t b n : Nat) : dp_cpJ M' s a t b n = rJ M' t (fN (dp_J M' t) b n (fun j => dp_J M' s (a + j))) := mext (fun k => by rw [cpJ_I, rJ_I]) (fun k => by rw [cpJ_J, rJ_J]) rfl
section DJ
variable {xs : Nat → Int32} {xl d : Nat} {M : dp_M}
/-- an order that the ask is not in -/
theorem QRw.other {M M' : dp_M} {A o : Nat} (h : QRw M A o) (h1 : ∀ k, dp_I M' k = dp_I M k) (h2 : ∀ k, k ≠ 85 → k ≠ 88 → dp_J M' k = dp_J M k) (h3 : ∀ a, qp M A o a = true → dp_J M' 85 a = dp_J M 85 a) : QRw M' A o := by
  obtain ⟨f, e, r, q1, q2, q3, q4, q5, q6, q7, q8, q9, q10, q11⟩ := h
  have hpq : qp M' A o = qp M A o := qp_c (h1 82)
  have hc : ∀ n, cC M' A o f n = cC M A o f n := fun n => by
    unfold cC
    rw [hpq, h1 84, h1 83, h1 80, h2 76 (by decide) (by decide)]
    exact crs_a h3 n
  refine ⟨f, e, r, q1, q2, q3, q4, by rw [h1 77]; exact q5, by rw [h1 78]; exact q6, by rw [h1 79]; exact q7, by rw [h2 76 (by decide) (by decide)]; exact q8, by rw [h2 76 (by decide) (by decide)]; exact q9, fun a ha => ?_, fun i hi => ?_⟩
  · rw [hpq] at ha
    rw [hc, h1 87, h2 86 (by decide) (by decide)]; exact q10 a ha
  · rw [hc, h2 81 (by decide) (by decide)]; exact q11 i hi
/-- what follow does not touch -/
theorem q_other {M1 : dp_M} {A o f e : Nat} {r : Int} (hA : A ≤ 400) (ho : o < 16) (a3 : dp_I M 75 1 = nI A) (b8 : ∀ a, 0 ≤ (dp_J M 85 a).toInt ∧ (dp_J M 85 a).toInt ≤ 1000000) (q1 : f ≤ e) (q2 : e ≤ 400) (q3 : (f : Int) - 1 ≤ r) (q4 : r ≤ 400) (q5 : dp_I M 77 o = nI f) (q6 : dp_I M 78 o = nI e) (q7 : (dp_I M 79 o).toInt = r) (q8 : 1 ≤ (dp_J M 76 o).toInt) (q9 : (dp_J M 76 o).toInt ≤ 1000000000)
    (h : dp_den true xs xl (d + 3) 129 [.ref 75, .int (nI o)] M = vR M1) : ∀ a, ¬ qp M A o a = true → dp_J M1 86 a = dp_J M 86 a := by
  have hle := nd_le (f := f) (e := e) (r := r) q1 q2
  obtain ⟨M', r1, r2, r3, r4, r5, r6, r7, r8, r9, r10, r11, r12⟩ := qc_follow (xs := xs) (xl := xl) (d := d) (M := M) (o := o) (A := A) (f := f) (n := nd f e r) (last := if dp_I M 78 o < dp_I M 79 o then dp_I M 78 o else dp_I M 79 o) hA ho (by omega) hle a3 q5 rfl (by
    by_cases w : dp_I M 78 o < dp_I M 79 o
    · rw [if_pos w, q6, nI_toInt (by omega)]
      rw [Int32.lt_iff_toInt_lt, q6, nI_toInt (by omega), q7] at w
      unfold nd; rw [if_pos w]; omega
    · rw [if_neg w, q7]
      rw [Int32.lt_iff_toInt_lt, q6, nI_toInt (by omega), q7] at w
      unfold nd; rw [if_neg w]; omega) b8 (by omega)
  have : M' = M1 := by
    rw [h] at r1
    injection r1 with r1
    injection r1 with _ r1
    exact r1.symm
  subst this
  exact fun a ha => (r10 a ha).2
theorem qc_change {O A o a : Nat} {v : Int64} (hO : O ≤ 16) (hA : A ≤ 400) (ha : a < A) (ho : o < O) (a3 : dp_I M 75 1 = nI A) (eo : dp_I M 82 a = nI o) (b8 : ∀ a, 0 ≤ (dp_J M 85 a).toInt ∧ (dp_J M 85 a).toInt ≤ 1000000) (v0 : 0 ≤ v.toInt) (v1 : v.toInt ≤ 1000000) (b10 : ∀ o, o < O → QRw M A o) :
    ∃ C, dp_den true xs xl (d + 4) 120 [.ref 75, .int (nI a), .long v] M = iR (nI (ct (fun k => decide (¬ dp_J C 86 k = dp_J M 86 k)) A)) C ∧ Off [75, 81, 85, 86, 87, 88, 89] [] M C ∧ Cst 0 0 M C ∧ (∀ o, o < O → QRw C A o) ∧ dp_J C 85 = uI (dp_J M 85) a v ∧ dp_I C 75 0 = dp_I M 75 0 ∧ dp_I C 75 1 = dp_I M 75 1 ∧ ∀ k, ¬ qp M A o k = true → dp_J C 86 k = dp_J M 86 k := by
  obtain ⟨N, hN⟩ : ∃ N, N = dp_setJ (dp_cpJ M 86 0 88 0 A) 85 a v := ⟨_, rfl⟩
  have nI' : ∀ k, dp_I N k = dp_I M k := fun k => by rw [hN, gIJ, cpJ_I]
  have nJ' : ∀ k, k ≠ 85 → k ≠ 88 → dp_J N k = dp_J M k := fun k q1 q2 => by rw [hN, gJJ, if_neg q1, cpJ_J, if_neg q2]
  have n85 : dp_J N 85 = uI (dp_J M 85) a v := by rw [hN, gJJ, if_pos rfl, cpJ_J, if_neg (by decide)]
  have n88 : ∀ k, k < A → dp_J N 88 k = dp_J M 86 k := fun k hk => by
    rw [hN, gJJ, if_neg (by decide), cpJ_J, if_pos rfl]; unfold fN; rw [if_pos (by omega)]
    show dp_J M 86 (0 + (k - 0)) = _
    rw [Nat.zero_add, Nat.sub_zero]
  have oN : Off [75, 81, 85, 86, 87, 88, 89] [] M N := by rw [hN, cpJ_r]; exact ((Off.rr _ _ M).rJ 88 (by decide) _).J 85 (by decide) _ _
  obtain ⟨f, e, r, q1, q2, q3, q4, q5, q6, q7, q8, q9, q10, q11⟩ := b10 o ho
  obtain ⟨C, r1, r2, r3, r4, r5, r6, r7, r8, r9, r10, r11⟩ := q_follow (xs := xs) (xl := xl) (d := d) (M := N) (A := A) (o := o) (f := f) (e := e) (r := r) hA (by omega) (by rw [nI']; exact a3) (fun x => by
    rw [n85]
    by_cases z : x = a
    · subst z; rw [uI_s]; exact ⟨v0, v1⟩
    · rw [uI_n z]; exact b8 x) q1 q2 q3 q4 (by rw [nI']; exact q5) (by rw [nI']; exact q6) (by rw [nI']; exact q7) (by rw [nJ' 76 (by decide) (by decide)]; exact q8) (by rw [nJ' 76 (by decide) (by decide)]; exact q9)
  have c88 : dp_J C 88 = dp_J N 88 := r8 88 (by decide) (by decide)
  have oth := q_other (xs := xs) (xl := xl) (d := d) (M := N) (M1 := C) (A := A) (o := o) (f := f) (e := e) (r := r) hA (by omega) (by rw [nI']; exact a3) (fun x => by
    rw [n85]
    by_cases z : x = a
    · subst z; rw [uI_s]; exact ⟨v0, v1⟩
    · rw [uI_n z]; exact b8 x) q1 q2 q3 q4 (by rw [nI']; exact q5) (by rw [nI']; exact q6) (by rw [nI']; exact q7) (by rw [nJ' 76 (by decide) (by decide)]; exact q8) (by rw [nJ' 76 (by decide) (by decide)]; exact q9) r1
  refine ⟨C, ?_, oN.tr (r2.mono (by decide) (by decide)), ⟨by rw [r3, hN]; exact Nat.le_refl _, by rw [r4, hN]; exact Nat.le_refl _⟩, fun o' ho' => ?_, by rw [r8 85 (by decide) (by decide), n85], by rw [r6, nI'], by rw [r5.1, a3], fun k hk => by rw [oth k (by rw [qp_c (nI' 82)]; exact hk), nJ' 86 (by decide) (by decide)]⟩
  · have loop : D_X5_changeAsk_40 xs xl (d + 3) (nI a) v 0 0 C = iR (nI (ct (fun k => decide (¬ dp_J C 86 k = dp_J M 86 k)) A)) C := by
      refine lpb (F := fun (c : Nat) k => D_X5_changeAsk_40 xs xl (d + 3) (nI a) v (nI c) (nI k) C) (s := ct (fun k => decide (¬ dp_J C 86 k = dp_J M 86 k))) (N := A) ?_ (fun k hk hr => ?_)
      · (try dsimp only)
        rw [D_X5_changeAsk_40_eq, r5.1, if_pos (nI_lle (Nat.le_refl _) (by omega))]
      · (try dsimp only at hr); (try dsimp only)
        rw [show ct (fun k => decide (¬ dp_J C 86 k = dp_J M 86 k)) (k + 1) = ct (fun k => decide (¬ dp_J C 86 k = dp_J M 86 k)) k + (if decide (¬ dp_J C 86 k = dp_J M 86 k) = true then 1 else 0) from rfl] at hr
        rw [D_X5_changeAsk_40_eq, r5.1, if_neg (nI_nge hk (by omega))]
        simp only [nI_cl (show k < 2147483648 by omega), nI_o (show k < 400 by omega) (by omega), if_false, dp_w, nI_1, Int32.add_zero, lg_cmp_eq, c88, n88 k hk]
        by_cases z : dp_J C 86 k = dp_J M 86 k
        · rw [if_neg (by rw [decide_eq_true_eq]; exact fun q => q z)] at hr
          rw [if_pos z]; exact hr
        · rw [if_pos (by rw [decide_eq_true_eq]; exact z)] at hr
          rw [if_neg z]; exact hr
    rw [D_X5_changeAsk_0_den, D_X5_changeAsk_0_eq, a3]
    have gd : ¬ (nI A < 0 ∨ (0 : Int32) < 0 ∨ (0 : Int32) < 0 ∨ 400 < Int32.toNatClampNeg (0 : Int32) + (nI A).toNatClampNeg ∨ 400 < Int32.toNatClampNeg (0 : Int32) + (nI A).toNatClampNeg ∨ (86 : Nat) = 88) := by
      have e0 : Int32.toNatClampNeg (0 : Int32) = 0 := rfl
      rw [nI_cl (by omega), e0]
      intro q
      rcases q with q | q | q | q | q | q
      · exact nI_nn (by omega) q
      · exact absurd q (by decide)
      · exact absurd q (by decide)
      · omega
      · omega
      · omega
    rw [if_neg gd]
    have e0 : Int32.toNatClampNeg (0 : Int32) = 0 := rfl
    simp only [dp_w, e0, nI_cl (show A < 2147483648 by omega), nI_cl (show a < 2147483648 by omega), nI_o (show a < 400 by omega) (by omega), if_false]
    rw [← hN, nI' 82, eo, r1, rb_bv]
    exact loop
  · by_cases z : o' = o
    · subst z; exact r9
    · refine r10 o' (by omega) z ((b10 o' ho').other nI' nJ' (fun x hx => ?_))
      rw [n85]
      by_cases w : x = a
      · subst w
        unfold qp at hx
        rw [Bool.and_eq_true, decide_eq_true_eq, decide_eq_true_eq, eo, nI_eq (by omega) (by omega)] at hx
        exact absurd hx.2.symm z
      · rw [uI_n w]
end DJ
