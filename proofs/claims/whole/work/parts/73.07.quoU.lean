/-! QUOTAS: order, balance, quota, transfer -/
section QU
variable {xs : Nat → Int32} {xl d : Nat} {M : dp_M}
/-- the model's course over, nothing else is changed -/
theorem RelQ.crs {N N' : dp_M} (h : RelQ N) (h1 : ∀ k, k ≠ 199 → dp_I N' k = dp_I N k) (h2 : ∀ k, k ≠ 200 → k ≠ 114 → dp_J N' k = dp_J N k) : RelQ N' := by
  unfold RelQ QRw cC qp mdy mdk at h ⊢
  simp only [h1 75 (by decide), h2 76 (by decide) (by decide), h1 77 (by decide), h1 78 (by decide), h1 79 (by decide), h1 80 (by decide), h2 81 (by decide) (by decide), h1 82 (by decide), h1 83 (by decide), h1 84 (by decide), h2 85 (by decide) (by decide), h2 86 (by decide) (by decide), h1 87 (by decide), h2 191 (by decide) (by decide), h1 192 (by decide), h1 193 (by decide), h1 194 (by decide), h1 195 (by decide), h1 196 (by decide), h1 197 (by decide), h2 198 (by decide) (by decide), h1 235 (by decide), h1 238 (by decide), h1 114 (by decide)]
  exact h
/-- the model's course, of what the class has -/
theorem RelQ.course {O A o : Nat} {u : Int32} {f e : Nat} {n : Nat} (hA : A ≤ 400) (ho : o < 16) (a4 : dp_I M 114 111 = nI A) (b1 : dp_J M 191 = dp_J M 76) (b2 : dp_I M 192 = dp_I M 77) (b3 : dp_I M 193 = dp_I M 78) (b5 : dp_I M 195 = dp_I M 80) (b6 : dp_J M 198 = dp_J M 85) (b8 : ∀ a, 0 ≤ (dp_J M 85 a).toInt ∧ (dp_J M 85 a).toInt ≤ 1000000)
    (b9 : ∀ a, a < A → dp_I M 82 a = dp_I M 197 a ∧ qin (dp_I M 82 a) O ∧ qin (dp_I M 196 a) 400 ∧ dp_I M 84 a = mdy M a ∧ dp_I M 83 a = mdk M a) (q1 : f ≤ e) (q2 : e ≤ 400) (q5 : dp_I M 77 o = nI f) (q6 : dp_I M 78 o = nI e) (q8 : 1 ≤ (dp_J M 76 o).toInt) (q9 : (dp_J M 76 o).toInt ≤ 1000000000) (hu : n = nd f e u.toInt) :
    ∃ M', dp_den true xs xl (d + 3) 508 [.ref 114, .int (nI o), .int u] M = vR M' ∧ Off [199, 200] [118] M M' ∧ dp_n M' = dp_n M ∧ dp_z M' = dp_z M ∧ (∀ k, k ≠ 199 → dp_I M' k = dp_I M k) ∧ (∀ k, k ≠ 200 → k ≠ 114 → dp_J M' k = dp_J M k) ∧ dp_J M' 114 118 = (cC M A o f n).1 ∧ (∀ a, qp M A o a = true → dp_I M' 199 a = (cC M A o f n).2.1 a ∧ dp_J M' 200 a = (cC M A o f n).2.2 a) := by
  obtain ⟨p1, p2⟩ := cM_cC (M := M) (A := A) (o := o) (f := f) (fun a ha => ⟨(b9 a ha).1, (b9 a ha).2.2.2.1, (b9 a ha).2.2.2.2⟩) b6 b5 b1
  obtain ⟨M', r1, r2, r3, r4, r5, r6, r7, r8, r9⟩ := qm_course (xs := xs) (xl := xl) (d := d) (M := M) (A := A) (o := o) (f := f) (e := e) (n := n) (u := u) hA ho a4 (fun a ha => (b9 a ha).2.2.1) (by rw [b2]; exact q5) (by rw [b3]; exact q6) q1 q2 (by rw [hu]; unfold nd; split <;> omega) (by rw [b6]; exact b8) (by rw [b1]; omega)
  rw [p2] at r7 r8
  rw [p1] at r8
  exact ⟨M', r1, r2, r3, r4, r5, r6, r7, r8⟩
/-- balance -/
theorem s_balance (h : RelQ M) (hn : 246 ≤ dp_n M) (v1 v2 : Int32) : ∃ k b M1 M2, dp_den true xs xl (d + 5) 631 [.ref 0, .int v1, .int v2, .ref 245] M = iR k M1 ∧ dp_den true xs xl (d + 5) 513 [.ref 114, .int v1, .int v2] M1 = lR b M2 ∧
    dp_I M2 114 0 = k ∧ (k = 0 → dp_J M2 245 0 = b) ∧ RelQ M2 ∧ Off (245 :: RelQ_W) (0 :: RelQ_V) M M2 ∧ Cst 1 6 M M2 := by
  have h0 := h
  obtain ⟨O, A, hO, hA, a1, a2, a3, a4, b1, b2, b3, b4, b5, b6, b7, b8, b9, b10⟩ := h
  by_cases g1 : qin v1 O
  case neg =>
    refine ⟨1, 0, dp_new M 0 0 6, _, wL_balance_x2 ?_, ?_, rfl, (fun e => by cases e), h0.refused hn 1⟩
    · rw [D_X11_balance_0_den, D_X11_balance_0_eq, qc_ord a1 hO, rb_bi, ibz, if_neg g1, q_nk hn]
    · rw [D_X12_balance_0_den, D_X12_balance_0_eq, qm_ord (O := O) (by rw [gIN (by omega)]; exact a2) hO, rb_bi, ibz, if_neg g1, q_ref, rb_bi]; rfl
  obtain ⟨o, ho, rfl⟩ := qin_of g1 (by omega)
  obtain ⟨f, e, r, q1, q2, q3, q4, q5, q6, q7, q8, q9, q10, q11⟩ := b10 o ho
  have e1 : ((dp_I M 77 o).toInt64 ≤ v2.toInt64 ∧ v2.toInt64 ≤ (dp_I M 79 o).toInt64) ↔ (¬ v2 < dp_I M 77 o ∧ v2 ≤ dp_I M 79 o) := by
    rw [Int64.le_iff_toInt_le, Int64.le_iff_toInt_le, Int32.toInt_toInt64, Int32.toInt_toInt64, Int32.toInt_toInt64, Int32.lt_iff_toInt_lt, Int32.le_iff_toInt_le]; omega
  have hc : dp_den true xs xl (d + 4) 318 [.ref 0, .int (nI o), .int v2] M = if ¬ v2 < dp_I M 77 o ∧ v2 ≤ dp_I M 79 o then dp_bl (dp_den true xs xl (d + 3) 125 [.ref 75, .int (nI o), .int v2] M) (fun r6 M5 => lR r6 M5) else xR 0 (dp_new M 0 0 6) := by
    rw [D_X11_balance_0_den, D_X11_balance_0_eq, qc_ord a1 hO, rb_bi, ibz, if_pos g1]
    simp only [nI_cl (show o < 2147483648 by omega), nI_o (show o < 16 by omega) (by omega), if_false, q_win, rb_bi, ibz, q_nk hn]
    by_cases z : ¬ v2 < dp_I M 77 o ∧ v2 ≤ dp_I M 79 o
    · rw [if_pos z, if_pos (e1.mpr z)]
    · rw [if_neg z, if_neg (fun w => z (e1.mp w))]
  have hm : ∀ N : dp_M, dp_I N 114 105 = nI O → dp_I N 192 = dp_I M 77 → dp_I N 194 = dp_I M 79 → dp_den true xs xl (d + 5) 513 [.ref 114, .int (nI o), .int v2] N = if ¬ v2 < dp_I M 77 o ∧ v2 ≤ dp_I M 79 o then dp_bv (dp_den true xs xl (d + 4) 508 [.ref 114, .int (nI o), .int v2] (dp_setI N 114 0 0)) (fun M8 => lR (dp_J M8 114 118) M8) else lR 0 (dp_setI N 114 0 2) := fun N n1 n2 n3 => by
    rw [D_X12_balance_0_den, D_X12_balance_0_eq, qm_ord n1 hO, rb_bi, ibz, if_pos g1]
    simp only [nI_cl (show o < 2147483648 by omega), nI_o (show o < 16 by omega) (by omega), if_false, n2, n3, q_ref, rb_bi, dp_w]
    by_cases z1 : v2 < dp_I M 77 o
    · rw [if_pos z1, if_neg (fun w => w.1 z1)]; rfl
    · rw [if_neg z1]
      by_cases z2 : v2 ≤ dp_I M 79 o
      · rw [if_pos z2, if_pos ⟨z1, z2⟩]
      · rw [if_neg z2, if_neg (fun w => z2 w.2)]; rfl
  by_cases g2 : ¬ v2 < dp_I M 77 o ∧ v2 ≤ dp_I M 79 o
  case neg =>
    refine ⟨2, 0, dp_new M 0 0 6, _, wL_balance_x0 (by rw [hc, if_neg g2]), ?_, rfl, (fun e => by cases e), h0.refused hn 2⟩
    rw [hm _ (by rw [gIN (by omega)]; exact a2) (by rw [gIN (by omega)]; exact b2) (by rw [gIN (by omega)]; exact b4), if_neg g2]
  have g2' := g2
  rw [Int32.lt_iff_toInt_lt, Int32.le_iff_toInt_le, q5, nI_toInt (by omega), q7] at g2'
  have hnd : 1 ≤ nd f e v2.toInt ∧ nd f e v2.toInt ≤ nd f e r := by unfold nd; constructor <;> (repeat' split) <;> omega
  obtain ⟨x, hx1, hx2⟩ : ∃ x : Nat, nd f e v2.toInt = x + 1 ∧ x < nd f e r := ⟨nd f e v2.toInt - 1, by omega, by omega⟩
  have hba : dp_den true xs xl (d + 3) 125 [.ref 75, .int (nI o), .int v2] M = lR (cC M A o f (nd f e v2.toInt)).1 M := by
    have hle : ¬ v2 < nI f := by rw [← q5]; exact g2.1
    have ev : (if nI e < v2 then nI e else v2) = nI (f + x) := by
      rw [← Int32.toInt_inj]
      have hx3 : f + x ≤ 400 := by have := nd_le (f := f) (e := e) (r := r) q1 q2; omega
      rw [nI_toInt (by omega)]
      unfold nd at hx1
      by_cases z : nI e < v2
      · rw [if_pos z, nI_toInt (by omega)]
        rw [Int32.lt_iff_toInt_lt, nI_toInt (by omega)] at z
        rw [if_pos z] at hx1; omega
      · rw [if_neg z]
        rw [Int32.lt_iff_toInt_lt, nI_toInt (by omega)] at z
        rw [if_neg z] at hx1; omega
    have hx3 : f + x ≤ 400 := by have := nd_le (f := f) (e := e) (r := r) q1 q2; omega
    rw [D_X5_balanceAt_0_den, D_X5_balanceAt_0_eq]
    simp only [nI_cl (show o < 2147483648 by omega), nI_o (show o < 16 by omega) (by omega), if_false, q5, q6, ev, t_401, nI_cl (show o * 401 + (f + x) < 2147483648 by omega), nI_o (show o * 401 + (f + x) < 6416 by omega) (by omega)]
    rw [if_pos (Int32.not_lt.mp hle), q11 x hx2, hx1]
  have hcl : dp_den true xs xl (d + 4) 318 [.ref 0, .int (nI o), .int v2] M = lR (cC M A o f (nd f e v2.toInt)).1 M := by
    rw [hc, if_pos g2, hba, rb_bl]
  obtain ⟨l1', l2, l3⟩ := h0.looked (cC M A o f (nd f e v2.toInt)).1
  obtain ⟨N, hN⟩ : ∃ N, N = dp_setI (dp_setJ M 245 0 (cC M A o f (nd f e v2.toInt)).1) 114 0 0 := ⟨_, rfl⟩
  rw [← hN] at l1' l2 l3
  have eI : ∀ k, k ≠ 114 → dp_I N k = dp_I M k := fun k hk => by rw [hN, gII, if_neg hk, gIJ]
  have eJ : ∀ k, k ≠ 245 → dp_J N k = dp_J M k := fun k hk => by rw [hN, gJI, gJJ, if_neg hk]
  have e114 : ∀ i, i ≠ 0 → dp_I N 114 i = dp_I M 114 i := fun i hi => by rw [hN, gII, if_pos rfl, uI_n hi, gIJ]
  have ecC : cC N A o f (nd f e v2.toInt) = cC M A o f (nd f e v2.toInt) := cC_c (eI 82 (by decide)) (eI 84 (by decide)) (eI 83 (by decide)) (eJ 85 (by decide)) (fun x _ => by rw [eI 80 (by decide)]) (by rw [eJ 76 (by decide)]) _ (nd_le q1 q2)
  obtain ⟨M', r1, r2, r3, r4, r5, r6, r7, r8⟩ := RelQ.course (xs := xs) (xl := xl) (d := d + 1) (M := N) (O := O) (A := A) (o := o) (u := v2) (f := f) (e := e) (n := nd f e v2.toInt) hA (by omega) (by rw [e114 111 (by decide)]; exact a4) (by rw [eJ 191 (by decide), eJ 76 (by decide)]; exact b1) (by rw [eI 192 (by decide), eI 77 (by decide)]; exact b2) (by rw [eI 193 (by decide), eI 78 (by decide)]; exact b3) (by rw [eI 195 (by decide), eI 80 (by decide)]; exact b5) (by rw [eJ 198 (by decide), eJ 85 (by decide)]; exact b6) (by rw [eJ 85 (by decide)]; exact b8)
    (fun a ha => by unfold mdy mdk; rw [eI 82 (by decide), eI 197 (by decide), eI 196 (by decide), eI 84 (by decide), eI 83 (by decide), eI 238 (by decide), eI 235 (by decide)]; exact b9 a ha) q1 q2 (by rw [eI 77 (by decide)]; exact q5) (by rw [eI 78 (by decide)]; exact q6) (by rw [eJ 76 (by decide)]; exact q8) (by rw [eJ 76 (by decide)]; exact q9) rfl
  rw [ecC] at r7
  refine ⟨0, (cC M A o f (nd f e v2.toInt)).1, _, M', wL_balance_ok hcl, ?_, ?_, fun _ => ?_, l1'.crs r5 r6, l2.tr (r2.mono (by decide) (by decide)), ⟨by rw [r3]; exact l3.1, by rw [r4]; exact l3.2⟩⟩
  · rw [hm _ (by rw [gIJ]; exact a2) (by rw [gIJ]; exact b2) (by rw [gIJ]; exact b4), if_pos g2, ← hN, r1, rb_bv, r7]
  · rw [r5 114 (by decide), hN, gII, if_pos rfl, uI_s]
  · rw [r6 245 (by decide) (by decide), hN, gJI, gJJ, if_pos rfl, uI_s]
end QU
