/-! QUOTAS: follow and the relation; block -/
section QB
variable {xs : Nat → Int32} {xl d : Nat} {M : dp_M}
theorem q_follow {A o f e : Nat} {r : Int} (hA : A ≤ 400) (ho : o < 16) (a3 : dp_I M 75 1 = nI A) (b8 : ∀ a, 0 ≤ (dp_J M 85 a).toInt ∧ (dp_J M 85 a).toInt ≤ 1000000) (q1 : f ≤ e) (q2 : e ≤ 400) (q3 : (f : Int) - 1 ≤ r) (q4 : r ≤ 400) (q5 : dp_I M 77 o = nI f) (q6 : dp_I M 78 o = nI e) (q7 : (dp_I M 79 o).toInt = r) (q8 : 1 ≤ (dp_J M 76 o).toInt) (q9 : (dp_J M 76 o).toInt ≤ 1000000000) :
    ∃ M1, dp_den true xs xl (d + 3) 129 [.ref 75, .int (nI o)] M = vR M1 ∧ Off [75, 81, 86, 87, 89] [] M M1 ∧ dp_n M1 = dp_n M ∧ dp_z M1 = dp_z M ∧ MN M1 (qp M A o) A ∧ dp_I M1 75 0 = dp_I M 75 0 ∧ (∀ k, k ≠ 75 → k ≠ 87 → k ≠ 89 → dp_I M1 k = dp_I M k) ∧ (∀ k, k ≠ 81 → k ≠ 86 → dp_J M1 k = dp_J M k) ∧ QRw M1 A o ∧ (∀ o', o' < 16 → o' ≠ o → QRw M A o' → QRw M1 A o') ∧ ∀ a, qp M A o a = true → dp_I M1 87 a = (cC M A o f (nd f e r)).2.1 a ∧ dp_J M1 86 a = (cC M A o f (nd f e r)).2.2 a := by
  have hle := nd_le (f := f) (e := e) (r := r) q1 q2
  obtain ⟨M1, r1, r2, r3, r4, r5, r6, r7, r8, r9, r10, r11, r12⟩ := qc_follow (xs := xs) (xl := xl) (d := d) (M := M) (o := o) (A := A) (f := f) (n := nd f e r) (last := if dp_I M 78 o < dp_I M 79 o then dp_I M 78 o else dp_I M 79 o) hA ho (by omega) hle a3 q5 rfl (by
    by_cases w : dp_I M 78 o < dp_I M 79 o
    · rw [if_pos w, q6, nI_toInt (by omega)]
      rw [Int32.lt_iff_toInt_lt, q6, nI_toInt (by omega), q7] at w
      unfold nd; rw [if_pos w]; omega
    · rw [if_neg w, q7]
      rw [Int32.lt_iff_toInt_lt, q6, nI_toInt (by omega), q7] at w
      unfold nd; rw [if_neg w]; omega) b8 (by omega)
  have hc : ∀ n, f + n ≤ 401 → cC M1 A o f n = cC M A o f n := cC_c (r7 82 (by decide) (by decide) (by decide)) (r7 84 (by decide) (by decide) (by decide)) (r7 83 (by decide) (by decide) (by decide)) (r8 85 (by decide) (by decide)) (fun x _ => by rw [r7 80 (by decide) (by decide) (by decide)]) (by rw [r8 76 (by decide) (by decide)])
  refine ⟨M1, r1, r2, r3, r4, r5, r6, r7, r8, ?_, fun o' ho' hne hq => ?_, r9⟩
  · refine ⟨f, e, r, q1, q2, q3, q4, by rw [r7 77 (by decide) (by decide) (by decide)]; exact q5, by rw [r7 78 (by decide) (by decide) (by decide)]; exact q6, by rw [r7 79 (by decide) (by decide) (by decide)]; exact q7, by rw [r8 76 (by decide) (by decide)]; exact q8, by rw [r8 76 (by decide) (by decide)]; exact q9, fun a ha => ?_, fun i hi => ?_⟩
    · rw [qp_c (r7 82 (by decide) (by decide) (by decide))] at ha
      rw [hc _ hle]; exact r9 a ha
    · rw [hc _ (by omega)]; exact r11 i hi
  · refine hq.same ho' (r7 82 (by decide) (by decide) (by decide)) (r7 84 (by decide) (by decide) (by decide)) (r7 83 (by decide) (by decide) (by decide)) (r8 85 (by decide) (by decide)) (fun x _ => by rw [r7 80 (by decide) (by decide) (by decide)]) (by rw [r8 76 (by decide) (by decide)]) (by rw [r7 77 (by decide) (by decide) (by decide)]) (by rw [r7 78 (by decide) (by decide) (by decide)]) (by rw [r7 79 (by decide) (by decide) (by decide)]) (fun a ha => ?_) (fun x hx => ?_)
    · apply r10
      intro w
      unfold qp at ha w
      simp only [Bool.and_eq_true, decide_eq_true_eq] at ha w
      have := w.2
      rw [ha.2, nI_eq (by omega) (by omega)] at this
      exact hne this
    · apply r12
      intro i hi
      omega
/-- block -/
theorem s_block (h : RelQ M) (hn : 246 ≤ dp_n M) (v1 v2 v3 : Int32) (hv : v3 = 0 ∨ v3 = 1) : ∃ k b M1 M2, dp_den true xs xl (d + 6) 629 [.ref 0, .int v1, .int v2, .int v3, .ref 245] M = iR k M1 ∧ dp_den true xs xl (d + 6) 511 [.ref 114, .int v1, .int v2, .int v3] M1 = iR b M2 ∧
    dp_I M2 114 0 = k ∧ (k = 0 → dp_J M2 245 0 = if b = 0 then 0 else 1) ∧ RelQ M2 ∧ Off (245 :: RelQ_W) (0 :: RelQ_V) M M2 ∧ Cst 1 6 M M2 := by
  have h0 := h
  have hv1 : v3 &&& 1 = v3 := by rcases hv with rfl | rfl <;> rfl
  obtain ⟨O, A, hO, hA, a1, a2, a3, a4, b1, b2, b3, b4, b5, b6, b7, b8, b9, b10⟩ := h
  by_cases g1 : qin v1 O
  case neg =>
    refine ⟨1, 0, dp_new M 0 0 6, _, wL_block_x2 ?_, ?_, rfl, (fun e => by cases e), h0.refused hn 1⟩
    · rw [D_X11_block_0_den, D_X11_block_0_eq, qc_ord a1 hO, rb_bi, ibz, if_neg g1, q_nk hn]
    · rw [D_X12_block_0_den, D_X12_block_0_eq, qm_ord (O := O) (by rw [gIN (by omega)]; exact a2) hO, rb_bi, ibz, if_neg g1, D_X12_block_14_eq]
      simp only [dp_w, gII, if_true, uI_s]
      rw [if_pos (by decide)]
  obtain ⟨o, ho, rfl⟩ := qin_of g1 (by omega)
  obtain ⟨f, e, r, q1, q2, q3, q4, q5, q6, q7, q8, q9, q10, q11⟩ := b10 o ho
  have hspan : dp_den true xs xl (d + 4) 117 [.ref 75, .int (nI o), .int v2] M = iR (bI (¬ v2 < nI f ∧ ¬ nI e < v2)) M := by
    rw [D_X5_isInSpan_0_den, D_X5_isInSpan_0_eq]
    simp only [nI_cl (show o < 2147483648 by omega), nI_o (show o < 16 by omega) (by omega), if_false, q5, q6]
    by_cases z1 : v2 < nI f
    · rw [if_pos z1, bI_f (fun w => w.1 z1)]
    rw [if_neg z1]
    by_cases z2 : nI e < v2
    · rw [if_pos z2, bI_f (fun w => w.2 z2)]
    · rw [if_neg z2, bI_t ⟨z1, z2⟩]
  have hm0 : ∀ N : dp_M, dp_I N 114 105 = nI O → dp_I N 192 = dp_I M 77 → dp_I N 193 = dp_I M 78 → dp_den true xs xl (d + 6) 511 [.ref 114, .int (nI o), .int v2, .int v3] N = if ¬ v2 < nI f ∧ ¬ nI e < v2 then (if ((401 : Int32) * nI o + v2) < 0 ∨ 6416 ≤ ((401 : Int32) * nI o + v2).toNatClampNeg then none else if dp_I N 195 (((401 : Int32) * nI o + v2).toNatClampNeg) = v3 then iR 0 (dp_setI N 114 0 0) else if ((401 : Int32) * nI o + v2) < 0 ∨ 6416 ≤ ((401 : Int32) * nI o + v2).toNatClampNeg then none else iR 1 (dp_setI (dp_setI N 114 0 0) 195 (((401 : Int32) * nI o + v2).toNatClampNeg) v3)) else iR 0 (dp_setI N 114 0 0) := fun N n1 n2 n3 => by
    rw [D_X12_block_0_den, D_X12_block_0_eq, qm_ord n1 hO, rb_bi, ibz, if_pos g1, D_X12_block_14_eq]
    simp only [dp_w, gII, if_true, uI_s, Nat.reduceEqDiff, if_false, n2, n3, nI_cl (show o < 2147483648 by omega), nI_o (show o < 16 by omega) (by omega), q5, q6, hv1, if_neg (show ¬ (0 : Int32) < 0 by decide)]
    by_cases z1 : v2 < nI f
    · rw [if_pos z1, if_neg (fun w => w.1 z1)]
    rw [if_neg z1]
    by_cases z2 : nI e < v2
    · rw [if_pos z2, if_neg (fun w => w.2 z2)]
    · rw [if_neg z2, if_pos (show ¬ v2 < nI f ∧ ¬ nI e < v2 from ⟨z1, z2⟩)]
  by_cases g2 : ¬ v2 < nI f ∧ ¬ nI e < v2
  case neg =>
    refine ⟨0, 0, dp_setJ M 245 0 0, _, wL_block_ok (x := 0) (M1 := M) ?_, ?_, by simp [gII, uI], fun _ => by simp [gJI, gJJ, uI], h0.looked 0⟩
    · rw [D_X11_block_0_den, D_X11_block_0_eq, qc_ord a1 hO, rb_bi, ibz, if_pos g1, hspan, rb_bi, ibz, if_neg g2]
    · rw [hm0 _ (by rw [gIJ]; exact a2) (by rw [gIJ]; exact b2) (by rw [gIJ]; exact b3), if_neg g2]
  obtain ⟨x, hx1, hx2, rfl⟩ : ∃ x : Nat, f ≤ x ∧ x ≤ e ∧ v2 = nI x := wi_of (by
    rw [Int32.lt_iff_toInt_lt, Int32.lt_iff_toInt_lt, nI_toInt (by omega), nI_toInt (by omega)] at g2
    constructor <;> omega) (by omega)
  have hcl0 : dp_den true xs xl (d + 5) 316 [.ref 0, .int (nI o), .int (nI x), .int v3] M = dp_bi (dp_den true xs xl (d + 4) 122 [.ref 75, .int (nI o), .int (nI x), .int v3] M) (fun r6 M5 => if r6 = 0 then iR 0 M5 else iR 1 M5) := by
    rw [D_X11_block_0_den, D_X11_block_0_eq, qc_ord a1 hO, rb_bi, ibz, if_pos g1, hspan, rb_bi, ibz, if_pos g2]
  have hm1 : ∀ N : dp_M, dp_I N 114 105 = nI O → dp_I N 192 = dp_I M 77 → dp_I N 193 = dp_I M 78 → dp_I N 195 = dp_I M 80 → dp_den true xs xl (d + 6) 511 [.ref 114, .int (nI o), .int (nI x), .int v3] N = if dp_I M 80 (o * 401 + x) = v3 then iR 0 (dp_setI N 114 0 0) else iR 1 (dp_setI (dp_setI N 114 0 0) 195 (o * 401 + x) v3) := fun N n1 n2 n3 n4 => by
    rw [hm0 N n1 n2 n3, if_pos g2]
    simp only [t_401', nI_cl (show o * 401 + x < 2147483648 by omega), nI_o (show o * 401 + x < 6416 by omega) (by omega), if_false, n4]
  by_cases g3 : dp_I M 80 (o * 401 + x) = v3
  · refine ⟨0, 0, dp_setJ M 245 0 0, _, wL_block_ok (x := 0) (M1 := M) ?_, ?_, by simp [gII, uI], fun _ => by simp [gJI, gJJ, uI], h0.looked 0⟩
    · rw [hcl0, D_X5_setBlocked_0_den, D_X5_setBlocked_0_eq]
      simp only [t_401, nI_cl (show o * 401 + x < 2147483648 by omega), nI_o (show o * 401 + x < 6416 by omega) (by omega), if_false, dp_w, if_pos g3]
      rw [rb_bi, if_pos rfl]
    · rw [hm1 _ (by rw [gIJ]; exact a2) (by rw [gIJ]; exact b2) (by rw [gIJ]; exact b3) (by rw [gIJ]; exact b5), if_pos g3]
  obtain ⟨M0, hM0⟩ : ∃ M0, M0 = dp_setI M 80 (o * 401 + x) v3 := ⟨_, rfl⟩
  have mI : ∀ k, k ≠ 80 → dp_I M0 k = dp_I M k := fun k hk => by rw [hM0, gII, if_neg hk]
  have mJ : dp_J M0 = dp_J M := by rw [hM0, gJI]
  have m80 : dp_I M0 80 = uI (dp_I M 80) (o * 401 + x) v3 := by rw [hM0, gII, if_pos rfl]
  obtain ⟨M1, r1, r2, r3, r4, r5, r6, r7, r8, r9, r10, -⟩ := q_follow (xs := xs) (xl := xl) (d := d) (M := M0) (A := A) (o := o) (f := f) (e := e) (r := r) hA (by omega) (by rw [mI 75 (by decide)]; exact a3) (by rw [mJ]; exact b8) q1 q2 q3 q4 (by rw [mI 77 (by decide)]; exact q5) (by rw [mI 78 (by decide)]; exact q6) (by rw [mI 79 (by decide)]; exact q7) (by rw [mJ]; exact q8) (by rw [mJ]; exact q9)
  have hcl : dp_den true xs xl (d + 5) 316 [.ref 0, .int (nI o), .int (nI x), .int v3] M = iR 1 M1 := by
    rw [hcl0, D_X5_setBlocked_0_den, D_X5_setBlocked_0_eq]
    simp only [t_401, nI_cl (show o * 401 + x < 2147483648 by omega), nI_o (show o * 401 + x < 6416 by omega) (by omega), if_false, dp_w, if_neg g3, hv1]
    rw [← hM0, r1, rb_bv, rb_bi, if_neg (by decide)]
  have oM1 : Off [75, 80, 81, 86, 87, 89, 245, 195] [0] M M1 := by
    have : Off [75, 80, 81, 86, 87, 89, 245, 195] [0] M M0 := by rw [hM0]; exact (Off.rr _ _ _).I 80 (by decide) _ _
    exact this.tr (r2.mono (by decide) (by decide))
  have e80 : dp_I M1 80 = uI (dp_I M 80) (o * 401 + x) v3 := by rw [r7 80 (by decide) (by decide) (by decide), m80]
  have eI : ∀ k, k ≠ 75 → k ≠ 80 → k ≠ 87 → k ≠ 89 → dp_I M1 k = dp_I M k := fun k k1 k2 k3 k4 => by rw [r7 k k1 k3 k4, mI k k2]
  have eJ : ∀ k, k ≠ 81 → k ≠ 86 → dp_J M1 k = dp_J M k := fun k k1 k2 => by rw [r8 k k1 k2, mJ]
  refine ⟨0, 1, dp_setJ M1 245 0 1, dp_setI (dp_setI (dp_setJ M1 245 0 1) 114 0 0) 195 (o * 401 + x) v3, wL_block_ok hcl, ?_, by simp [gII, gIJ, uI], fun _ => by simp [gJI, gJJ, uI], ?_, (((oM1.J 245 (by decide) _ _).F 0 (by decide) _).I 195 (by decide) _ _).mono (by decide) (by decide), ?_⟩
  · rw [hm1 _ (by rw [gIJ, eI 114 (by decide) (by decide) (by decide) (by decide)]; exact a2) (by rw [gIJ, eI 192 (by decide) (by decide) (by decide) (by decide)]; exact b2) (by rw [gIJ, eI 193 (by decide) (by decide) (by decide) (by decide)]; exact b3) (by rw [gIJ, eI 195 (by decide) (by decide) (by decide) (by decide)]; exact b5), if_neg g3]
  · have e114 := eI 114 (by decide) (by decide) (by decide) (by decide)
    refine ⟨O, A, hO, hA, ?_, ?_, ?_, ?_, ?_, ?_, ?_, ?_, ?_, ?_, fun i => ?_, ?_, fun a ha => ?_, fun o' ho' => ?_⟩
    · simp only [gII, gIJ, Nat.reduceEqDiff, if_false]; rw [r6, mI 75 (by decide)]; exact a1
    · simp only [gII, gIJ, Nat.reduceEqDiff, if_false, if_true, uI_n (show (105 : Nat) ≠ 0 by decide), e114]; exact a2
    · simp only [gII, gIJ, Nat.reduceEqDiff, if_false]; exact r5.1
    · simp only [gII, gIJ, Nat.reduceEqDiff, if_false, if_true, uI_n (show (111 : Nat) ≠ 0 by decide), e114]; exact a4
    · simp only [gJI, gJJ, Nat.reduceEqDiff, if_false, eJ 191 (by decide) (by decide), eJ 76 (by decide) (by decide)]; exact b1
    · simp only [gII, gIJ, Nat.reduceEqDiff, if_false, eI 192 (by decide) (by decide) (by decide) (by decide), eI 77 (by decide) (by decide) (by decide) (by decide)]; exact b2
    · simp only [gII, gIJ, Nat.reduceEqDiff, if_false, eI 193 (by decide) (by decide) (by decide) (by decide), eI 78 (by decide) (by decide) (by decide) (by decide)]; exact b3
    · simp only [gII, gIJ, Nat.reduceEqDiff, if_false, eI 194 (by decide) (by decide) (by decide) (by decide), eI 79 (by decide) (by decide) (by decide) (by decide)]; exact b4
    · simp only [gII, gIJ, Nat.reduceEqDiff, if_false, if_true, e80, eI 195 (by decide) (by decide) (by decide) (by decide), b5]
    · simp only [gJI, gJJ, Nat.reduceEqDiff, if_false, eJ 198 (by decide) (by decide), eJ 85 (by decide) (by decide)]; exact b6
    · simp only [gII, gIJ, Nat.reduceEqDiff, if_false, e80]
      unfold uI
      split
      · exact hv
      · exact b7 i
    · simp only [gJI, gJJ, Nat.reduceEqDiff, if_false, eJ 85 (by decide) (by decide)]; exact b8
    · unfold mdy mdk
      simp only [gII, gIJ, Nat.reduceEqDiff, if_false, eI 82 (by decide) (by decide) (by decide) (by decide), eI 83 (by decide) (by decide) (by decide) (by decide), eI 84 (by decide) (by decide) (by decide) (by decide), eI 196 (by decide) (by decide) (by decide) (by decide), eI 197 (by decide) (by decide) (by decide) (by decide), eI 235 (by decide) (by decide) (by decide) (by decide), eI 238 (by decide) (by decide) (by decide) (by decide)]
      exact b9 a ha
    · have hq : QRw M1 A o' := by
        by_cases eo : o' = o
        · rw [eo]; exact r9
        · refine r10 o' (by omega) eo ((b10 o' ho').same (by omega) (mI 82 (by decide)) (mI 84 (by decide)) (mI 83 (by decide)) (by rw [mJ]) (fun y hy => ?_) (by rw [mJ]) (by rw [mI 77 (by decide)]) (by rw [mI 78 (by decide)]) (by rw [mI 79 (by decide)]) (fun a _ => by rw [mI 87 (by decide), mJ]; exact ⟨rfl, rfl⟩) (fun y _ => by rw [mJ]))
          rw [m80, uI_n]
          omega
      refine hq.same (by omega) ?_ ?_ ?_ ?_ (fun y _ => ?_) ?_ ?_ ?_ ?_ (fun a _ => ?_) (fun y _ => ?_)
      all_goals simp only [gII, gIJ, gJI, gJJ, Nat.reduceEqDiff, if_false]
      exact ⟨trivial, trivial⟩
  · exact ⟨by show dp_n M1 ≤ _; rw [r3, hM0]; exact Nat.le_add_right _ _, by show dp_z M1 ≤ _; rw [r4, hM0]; exact Nat.le_add_right _ _⟩
end QB
