/-! QUOTAS: quota -/
section QV
variable {xs : Nat → Int32} {xl d : Nat} {M : dp_M}
/-- how many days of an order are blocked; how many asks of it wait -/
def bd (M : dp_M) (o : Nat) : Nat := ct (fun x => decide (¬ dp_I M 80 (o * 401 + x) = 0)) 401
def wg (M : dp_M) (A o : Nat) : Nat := ct (fun a => decide (dp_I M 82 a = nI o ∧ dp_I M 87 a = -1)) A
theorem qc_bd {o : Nat} (ho : o < 16) : dp_den true xs xl (d + 1) 127 [.ref 75, .int (nI o)] M = iR (nI (bd M o)) M := by
  rw [D_X5_blockedDays_0_den, D_X5_blockedDays_0_eq]
  simp only [dp_w]
  refine lpb (F := fun n x => D_X5_blockedDays_4 xs xl d (nI o) (nI n) (nI x) M) (s := ct (fun x => decide (¬ dp_I M 80 (o * 401 + x) = 0))) (N := 401) ?_ (fun x hx hr => ?_)
  · show D_X5_blockedDays_4 xs xl d (nI o) (nI (bd M o)) (nI 401) M = _
    rw [D_X5_blockedDays_4_eq, if_pos (by decide)]
  · (try dsimp only at hr); (try dsimp only)
    rw [D_X5_blockedDays_4_eq, if_neg (show ¬ (401 : Int32) ≤ nI (x) from nI_ge (a := x) (b := 401) (by omega) (by omega))]
    simp only [t_401, nI_cl (show o * 401 + x < 2147483648 by omega), nI_o (show o * 401 + x < 6416 by omega) (by omega), if_false, dp_w, nI_1, Int32.add_zero]
    by_cases z : dp_I M 80 (o * 401 + x) = 0
    · rw [if_pos z]
      rw [ct_n (by simpa using z)] at hr; exact hr
    · rw [if_neg z]
      rw [ct_s (by simpa using z)] at hr; exact hr
theorem qc_wg {A o : Nat} (hA : A ≤ 400) (a3 : dp_I M 75 1 = nI A) : dp_den true xs xl (d + 1) 128 [.ref 75, .int (nI o)] M = iR (nI (wg M A o)) M := by
  rw [D_X5_waiting_0_den, D_X5_waiting_0_eq]
  simp only [dp_w]
  refine lpb (F := fun n x => D_X5_waiting_4 xs xl d (nI o) (nI n) (nI x) M) (s := ct (fun a => decide (dp_I M 82 a = nI o ∧ dp_I M 87 a = -1))) (N := A) ?_ (fun x hx hr => ?_)
  · show D_X5_waiting_4 xs xl d (nI o) (nI (wg M A o)) (nI A) M = _
    rw [D_X5_waiting_4_eq, a3, if_pos (nI_lle (Nat.le_refl _) (by omega))]
  · (try dsimp only at hr); (try dsimp only)
    rw [D_X5_waiting_4_eq, a3, if_neg (nI_nge hx (by omega))]
    simp only [nI_cl (show x < 2147483648 by omega), nI_o (show x < 400 by omega) (by omega), if_false, dp_w, nI_1, Int32.add_zero]
    by_cases z1 : dp_I M 82 x = nI o
    · rw [if_pos z1]
      by_cases z2 : dp_I M 87 x = -1
      · rw [if_pos z2]
        rw [ct_s (by rw [decide_eq_true_eq]; exact ⟨z1, z2⟩)] at hr; exact hr
      · rw [if_neg z2]
        rw [ct_n (by rw [decide_eq_true_eq]; exact fun q => z2 q.2)] at hr; exact hr
    · rw [if_neg z1]
      rw [ct_n (by rw [decide_eq_true_eq]; exact fun q => z1 q.1)] at hr; exact hr
/-- the balance up to which an order is run -/
theorem qc_bal {A o f e : Nat} {r : Int} (ho : o < 16) (q1 : f ≤ e) (q2 : e ≤ 400) (q3 : (f : Int) - 1 ≤ r) (q4 : r ≤ 400) (q5 : dp_I M 77 o = nI f) (q6 : dp_I M 78 o = nI e) (q7 : (dp_I M 79 o).toInt = r) (q11 : ∀ i, i < nd f e r → dp_J M 81 (o * 401 + (f + i)) = (cC M A o f (i + 1)).1) :
    dp_den true xs xl (d + 1) 125 [.ref 75, .int (nI o), .int (dp_I M 79 o)] M = lR (cC M A o f (nd f e r)).1 M := by
  have hle := nd_le (f := f) (e := e) (r := r) q1 q2
  rw [D_X5_balanceAt_0_den, D_X5_balanceAt_0_eq]
  simp only [nI_cl (show o < 2147483648 by omega), nI_o (show o < 16 by omega) (by omega), if_false, q5, q6]
  by_cases z : (f : Int) ≤ r
  · have hx : ∃ x, nd f e r = x + 1 := ⟨nd f e r - 1, by unfold nd; split <;> omega⟩
    obtain ⟨x, hx⟩ := hx
    have ev : (if nI e < dp_I M 79 o then nI e else dp_I M 79 o) = nI (f + x) := by
      rw [← Int32.toInt_inj, nI_toInt (by omega)]
      unfold nd at hx
      by_cases w : nI e < dp_I M 79 o
      · rw [if_pos w, nI_toInt (by omega)]
        rw [Int32.lt_iff_toInt_lt, nI_toInt (by omega), q7] at w
        rw [if_pos w] at hx; omega
      · rw [if_neg w, q7]
        rw [Int32.lt_iff_toInt_lt, nI_toInt (by omega), q7] at w
        rw [if_neg w] at hx; omega
    rw [if_pos (by rw [Int32.le_iff_toInt_le, nI_toInt (by omega), q7]; exact z)]
    simp only [ev, t_401, nI_cl (show o * 401 + (f + x) < 2147483648 by omega), nI_o (show o * 401 + (f + x) < 6416 by omega) (by omega), if_false]
    rw [q11 x (by omega), hx]
  · rw [if_neg (by rw [Int32.le_iff_toInt_le, nI_toInt (by omega), q7]; exact z)]
    have : nd f e r = 0 := by unfold nd; split <;> omega
    rw [this]; rfl
/-- what a quota is asked -/
def qv (M : dp_M) (A o f n : Nat) (k : Nat) : Int64 := if k = 0 then dp_J M 76 o else if k = 1 then (dp_I M 79 o).toInt64 else if k = 2 then (nI (bd M o)).toInt64 else if k = 3 then (nI (wg M A o)).toInt64 else if 10 * (cC M A o f n).1 < dp_J M 76 o then 1 else 0
theorem s_quota (h : RelQ M) (hn : 246 ≤ dp_n M) (v1 v2 : Int32) : ∃ k b M1 M2, dp_den true xs xl (d + 5) 632 [.ref 0, .int v1, .int v2, .ref 245] M = iR k M1 ∧ dp_den true xs xl (d + 5) 514 [.ref 114, .int v1, .int v2] M1 = lR b M2 ∧
    dp_I M2 114 0 = k ∧ (k = 0 → dp_J M2 245 0 = b) ∧ RelQ M2 ∧ Off (245 :: RelQ_W) (0 :: RelQ_V) M M2 ∧ Cst 1 6 M M2 := by
  have h0 := h
  obtain ⟨O, A, hO, hA, a1, a2, a3, a4, b1, b2, b3, b4, b5, b6, b7, b8, b9, b10⟩ := h
  by_cases g : qin v1 O ∧ qin v2 5
  case neg =>
    refine ⟨1, 0, dp_new M 0 0 6, _, wL_quota_x2 ?_, ?_, rfl, (fun e => by cases e), h0.refused hn 1⟩
    · rw [D_X11_quota_0_den, D_X11_quota_0_eq]
      simp only [qc_ord a1 hO, q_win, w_4, rb_bi, ibz, q_nk hn]
      by_cases z : qin v1 O
      · rw [if_pos z, if_neg (fun w => g ⟨z, w⟩)]
      · rw [if_neg z]
    · rw [D_X12_quota_0_den, D_X12_quota_0_eq, qm_ord (O := O) (by rw [gIN (by omega)]; exact a2) hO]
      simp only [q_min, w_4, q_ref, rb_bi, ibz]
      by_cases z : qin v1 O
      · rw [if_pos z, if_neg (fun w => g ⟨z, w⟩)]; rfl
      · rw [if_neg z]; rfl
  obtain ⟨g1, g2⟩ := g
  obtain ⟨o, ho, rfl⟩ := qin_of g1 (by omega)
  obtain ⟨k, hk, rfl⟩ := qin_of g2 (by omega)
  obtain ⟨f, e, r, q1, q2, q3, q4, q5, q6, q7, q8, q9, q10, q11⟩ := b10 o ho
  have hk' : k = 0 ∨ k = 1 ∨ k = 2 ∨ k = 3 ∨ k = 4 := by omega
  have hcl : dp_den true xs xl (d + 4) 319 [.ref 0, .int (nI o), .int (nI k)] M = lR (qv M A o f (nd f e r) k) M := by
    rw [D_X11_quota_0_den, D_X11_quota_0_eq]
    simp only [qc_ord a1 hO, q_win, w_4, rb_bi, ibz, if_pos g1, if_pos g2, nI_cl (show o < 2147483648 by omega), nI_o (show o < 16 by omega) (by omega), if_false, qc_bd (show o < 16 by omega), qc_wg hA a3]
    unfold qv
    rcases hk' with rfl | rfl | rfl | rfl | rfl
    · rfl
    · rfl
    · rfl
    · rfl
    · rw [if_neg (by decide), if_neg (by decide), if_neg (by decide), if_neg (by decide), D_X5_isCritical_0_den, D_X5_isCritical_0_eq]
      simp only [nI_cl (show o < 2147483648 by omega), nI_o (show o < 16 by omega) (by omega), if_false, lg_cmp_ge]
      rw [qc_bal (A := A) (by omega) q1 q2 q3 q4 q5 q6 q7 q11, rb_bl]
      rw [if_neg (show ¬ 4 = 0 by omega), if_neg (show ¬ 4 = 1 by omega), if_neg (show ¬ 4 = 2 by omega), if_neg (show ¬ 4 = 3 by omega)]
      by_cases z : dp_J M 76 o ≤ 10 * (cC M A o f (nd f e r)).1
      · rw [if_pos z, rb_bi, if_pos rfl, if_neg (Int64.not_lt.mpr z)]
      · rw [if_neg z, rb_bi, if_neg (by decide), if_pos (Int64.not_le.mp z)]
  generalize hW : qv M A o f (nd f e r) k = W at hcl
  obtain ⟨l1', l2, l3⟩ := h0.looked W
  obtain ⟨N, hN⟩ : ∃ N, N = dp_setI (dp_setJ M 245 0 W) 114 0 0 := ⟨_, rfl⟩
  rw [← hN] at l1' l2 l3
  have eI : ∀ k, k ≠ 114 → dp_I N k = dp_I M k := fun k hk => by rw [hN, gII, if_neg hk, gIJ]
  have eJ : ∀ k, k ≠ 245 → dp_J N k = dp_J M k := fun k hk => by rw [hN, gJI, gJJ, if_neg hk]
  have e114 : ∀ i, i ≠ 0 → dp_I N 114 i = dp_I M 114 i := fun i hi => by rw [hN, gII, if_pos rfl, uI_n hi, gIJ]
  have ecC : cC N A o f (nd f e r) = cC M A o f (nd f e r) := cC_c (eI 82 (by decide)) (eI 84 (by decide)) (eI 83 (by decide)) (eJ 85 (by decide)) (fun x _ => by rw [eI 80 (by decide)]) (by rw [eJ 76 (by decide)]) _ (nd_le q1 q2)
  obtain ⟨M', r1, r2, r3, r4, r5, r6, r7, r8⟩ := RelQ.course (xs := xs) (xl := xl) (d := d + 1) (M := N) (O := O) (A := A) (o := o) (u := dp_I M 79 o) (f := f) (e := e) (n := nd f e r) hA (by omega) (by rw [e114 111 (by decide)]; exact a4) (by rw [eJ 191 (by decide), eJ 76 (by decide)]; exact b1) (by rw [eI 192 (by decide), eI 77 (by decide)]; exact b2) (by rw [eI 193 (by decide), eI 78 (by decide)]; exact b3) (by rw [eI 195 (by decide), eI 80 (by decide)]; exact b5) (by rw [eJ 198 (by decide), eJ 85 (by decide)]; exact b6) (by rw [eJ 85 (by decide)]; exact b8)
    (fun a ha => by unfold mdy mdk; rw [eI 82 (by decide), eI 197 (by decide), eI 196 (by decide), eI 84 (by decide), eI 83 (by decide), eI 238 (by decide), eI 235 (by decide)]; exact b9 a ha) q1 q2 (by rw [eI 77 (by decide)]; exact q5) (by rw [eI 78 (by decide)]; exact q6) (by rw [eJ 76 (by decide)]; exact q8) (by rw [eJ 76 (by decide)]; exact q9) (by rw [q7])
  rw [ecC] at r7 r8
  rw [qp_c (eI 82 (by decide))] at r8
  have m111 : dp_I M' 114 111 = nI A := by rw [r5 114 (by decide), e114 111 (by decide)]; exact a4
  have m195 : dp_I M' 195 = dp_I M 80 := by rw [r5 195 (by decide), eI 195 (by decide)]; exact b5
  have m197 : dp_I M' 197 = dp_I M 197 := by rw [r5 197 (by decide), eI 197 (by decide)]
  -- the loops of the model
  have lastL : D_X12_quota_92 xs xl (d + 4) (nI o) (nI k) (nI (bd M o)) 0 0 M' = lR W M' := by
    refine lpb (F := fun n x => D_X12_quota_92 xs xl (d + 4) (nI o) (nI k) (nI (bd M o)) (nI n) (nI x) M') (s := ct (fun a => decide (dp_I M 82 a = nI o ∧ dp_I M 87 a = -1))) (N := A) ?_ (fun x hx hr => ?_)
    · show D_X12_quota_92 xs xl (d + 4) (nI o) (nI k) (nI (bd M o)) (nI (wg M A o)) (nI A) M' = _
      rw [D_X12_quota_92_eq, m111, if_pos (nI_lle (Nat.le_refl _) (by omega))]
      simp only [nI_cl (show o < 2147483648 by omega), nI_o (show o < 16 by omega) (by omega), if_false, r6 191 (by decide) (by decide), eJ 191 (by decide), b1, r5 194 (by decide), eI 194 (by decide), b4, r7, lg_cmp_ge]
      rw [← hW]
      unfold qv
      rcases hk' with rfl | rfl | rfl | rfl | rfl
      · rfl
      · rfl
      · rfl
      · rfl
      · rw [if_neg (by decide), if_neg (by decide), if_neg (by decide), if_neg (by decide)]
        rw [if_neg (show ¬ 4 = 0 by omega), if_neg (show ¬ 4 = 1 by omega), if_neg (show ¬ 4 = 2 by omega), if_neg (show ¬ 4 = 3 by omega)]
        by_cases z : dp_J M 76 o ≤ 10 * (cC M A o f (nd f e r)).1
        · rw [if_pos z, if_neg (Int64.not_lt.mpr z)]
        · rw [if_neg z, if_pos (Int64.not_le.mp z)]
    · (try dsimp only at hr); (try dsimp only)
      rw [D_X12_quota_92_eq, m111, if_neg (nI_nge hx (by omega))]
      simp only [nI_cl (show x < 2147483648 by omega), nI_o (show x < 400 by omega) (by omega), if_false, dp_w, nI_1, Int32.add_zero, m197, ← (b9 x hx).1]
      by_cases z1 : dp_I M 82 x = nI o
      · have hq : qp M A o x = true := by unfold qp; simp only [Bool.and_eq_true, decide_eq_true_eq]; exact ⟨hx, z1⟩
        have et : dp_I M' 199 x = dp_I M 87 x := by rw [(r8 x hq).1, (q10 x hq).1]
        rw [if_pos z1, et]
        by_cases z2 : dp_I M 87 x = -1
        · rw [if_pos z2]
          rw [ct_s (by rw [decide_eq_true_eq]; exact ⟨z1, z2⟩)] at hr; exact hr
        · rw [if_neg z2]
          rw [ct_n (by rw [decide_eq_true_eq]; exact fun q => z2 q.2)] at hr; exact hr
      · rw [if_neg z1]
        rw [ct_n (by rw [decide_eq_true_eq]; exact fun q => z1 q.1)] at hr; exact hr
  have firstL : D_X12_quota_48 xs xl (d + 4) (nI o) (nI k) 0 0 M' = lR W M' := by
    refine lpb (F := fun n x => D_X12_quota_48 xs xl (d + 4) (nI o) (nI k) (nI n) (nI x) M') (s := ct (fun x => decide (¬ dp_I M 80 (o * 401 + x) = 0))) (N := 401) ?_ (fun x hx hr => ?_)
    · show D_X12_quota_48 xs xl (d + 4) (nI o) (nI k) (nI (bd M o)) (nI 401) M' = _
      rw [D_X12_quota_48_eq, if_pos (by decide)]
      simp only [dp_w]
      exact lastL
    · (try dsimp only at hr); (try dsimp only)
      rw [D_X12_quota_48_eq, if_neg (show ¬ (401 : Int32) ≤ nI (x) from nI_ge (a := x) (b := 401) (by omega) (by omega))]
      simp only [t_401', nI_cl (show o * 401 + x < 2147483648 by omega), nI_o (show o * 401 + x < 6416 by omega) (by omega), if_false, dp_w, nI_1, Int32.add_zero, m195]
      by_cases z : dp_I M 80 (o * 401 + x) = 0
      · rw [if_pos z]
        rw [ct_n (by simpa using z)] at hr; exact hr
      · rw [if_neg z]
        rw [ct_s (by simpa using z)] at hr; exact hr
  refine ⟨0, W, _, M', wL_quota_ok hcl, ?_, ?_, fun _ => ?_, l1'.crs r5 r6, l2.tr (r2.mono (by decide) (by decide)), ⟨by rw [r3]; exact l3.1, by rw [r4]; exact l3.2⟩⟩
  · rw [D_X12_quota_0_den, D_X12_quota_0_eq, qm_ord (O := O) (by rw [gIJ]; exact a2) hO]
    simp only [q_min, w_4, rb_bi, ibz, if_pos g1, if_pos g2, dp_w, nI_cl (show o < 2147483648 by omega), nI_o (show o < 16 by omega) (by omega), if_false]
    rw [← hN, eI 194 (by decide), b4, r1, rb_bv]
    exact firstL
  · rw [r5 114 (by decide), hN, gII, if_pos rfl, uI_s]
  · rw [r6 245 (by decide) (by decide), hN, gJI, gJJ, if_pos rfl, uI_s]
end QV
