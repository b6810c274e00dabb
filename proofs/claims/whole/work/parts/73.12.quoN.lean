/-! QUOTAS: run -/
section QN
variable {xs : Nat → Int32} {xl d : Nat} {M : dp_M}
/-- how many of an order got something behind a day -/
def gt (t : Nat → Int32) (g : Nat → Int64) (p : Nat → Bool) (w : Int32) (A : Nat) : Nat := ct (fun a => p a && decide (¬ t a ≤ w) && decide (¬ g a ≤ 0)) A
theorem s_run (h : RelQ M) (hn : 246 ≤ dp_n M) (v1 v2 : Int32) : ∃ k b M1 M2, dp_den true xs xl (d + 6) 628 [.ref 0, .int v1, .int v2, .ref 245] M = iR k M1 ∧ dp_den true xs xl (d + 6) 510 [.ref 114, .int v1, .int v2] M1 = iR b M2 ∧
    dp_I M2 114 0 = k ∧ (k = 0 → dp_J M2 245 0 = b.toInt64) ∧ RelQ M2 ∧ Off (245 :: RelQ_W) (0 :: RelQ_V) M M2 ∧ Cst 1 6 M M2 := by
  have h0 := h
  obtain ⟨O, A, hO, hA, a1, a2, a3, a4, b1, b2, b3, b4, b5, b6, b7, b8, b9, b10⟩ := h
  by_cases g1 : qin v1 O
  case neg =>
    refine ⟨1, 0, dp_new M 0 0 6, _, wL_run_x2 ?_, ?_, rfl, (fun e => by cases e), h0.refused hn 1⟩
    · rw [D_X11_run_0_den, D_X11_run_0_eq, qc_ord a1 hO, rb_bi, ibz, if_neg g1, q_nk hn]
    · rw [D_X12_run_0_den, D_X12_run_0_eq, qm_ord (O := O) (by rw [gIN (by omega)]; exact a2) hO, rb_bi, ibz, if_neg g1, q_ref, rb_bi]
  obtain ⟨o, ho, rfl⟩ := qin_of g1 (by omega)
  obtain ⟨f, e, r, q1, q2, q3, q4, q5, q6, q7, q8, q9, q10, q11⟩ := b10 o ho
  have hc0 : dp_den true xs xl (d + 5) 315 [.ref 0, .int (nI o), .int v2] M = if qin v2 401 ∧ dp_I M 79 o < v2 then dp_bi (dp_den true xs xl (d + 4) 121 [.ref 75, .int (nI o), .int v2] M) (fun r6 M5 => iR r6 M5) else xR 0 (dp_new M 0 0 6) := by
    rw [D_X11_run_0_den, D_X11_run_0_eq, qc_ord a1 hO, rb_bi, ibz, if_pos g1]
    simp only [q_win, w_400, rb_bi, ibz, q_nk hn, nI_cl (show o < 2147483648 by omega), nI_o (show o < 16 by omega) (by omega), if_false]
    by_cases z1 : qin v2 401
    · rw [if_pos z1]
      by_cases z2 : dp_I M 79 o < v2
      · rw [if_pos z2, if_pos (show qin v2 401 ∧ dp_I M 79 o < v2 from ⟨z1, z2⟩)]
      · rw [if_neg z2, if_neg (show ¬ (qin v2 401 ∧ dp_I M 79 o < v2) from fun w => z2 w.2)]
    · rw [if_neg z1, if_neg (show ¬ (qin v2 401 ∧ dp_I M 79 o < v2) from fun w => z1 w.1)]
  have hm0 : ∀ N : dp_M, dp_I N 114 105 = nI O → dp_I N 194 = dp_I M 79 → dp_den true xs xl (d + 6) 510 [.ref 114, .int (nI o), .int v2] N = if qin v2 401 ∧ dp_I M 79 o < v2 then dp_bv (dp_den true xs xl (d + 5) 508 [.ref 114, .int (nI o), .int v2] (dp_setI (dp_setI N 114 0 0) 194 o v2)) (fun M12 => D_X12_run_68 xs xl (d + 5) (nI o) v2 (dp_I M 79 o) 0 0 M12) else iR 0 (dp_setI N 114 0 2) := fun N n1 n2 => by
    rw [D_X12_run_0_den, D_X12_run_0_eq, qm_ord n1 hO, rb_bi, ibz, if_pos g1]
    simp only [qm_span, q_ref, rb_bi, ibz, nI_cl (show o < 2147483648 by omega), nI_o (show o < 16 by omega) (by omega), if_false, n2, dp_w, gII, Nat.reduceEqDiff]
    by_cases z1 : qin v2 401
    · rw [if_pos z1]
      by_cases z2 : dp_I M 79 o < v2
      · rw [if_pos z2, if_pos (show qin v2 401 ∧ dp_I M 79 o < v2 from ⟨z1, z2⟩)]
      · rw [if_neg z2, if_neg (show ¬ (qin v2 401 ∧ dp_I M 79 o < v2) from fun w => z2 w.2)]
    · rw [if_neg z1, if_neg (show ¬ (qin v2 401 ∧ dp_I M 79 o < v2) from fun w => z1 w.1)]
  by_cases g2 : qin v2 401 ∧ dp_I M 79 o < v2
  case neg =>
    refine ⟨2, 0, dp_new M 0 0 6, _, wL_run_x0 (by rw [hc0, if_neg g2]), ?_, rfl, (fun e => by cases e), h0.refused hn 2⟩
    rw [hm0 _ (by rw [gIN (by omega)]; exact a2) (by rw [gIN (by omega)]; exact b4), if_neg g2]
  obtain ⟨g2, g3⟩ := g2
  have hv2 := qin_iff.mp g2
  have g3' := g3
  rw [Int32.lt_iff_toInt_lt, q7] at g3'
  obtain ⟨w, hw⟩ : ∃ w, w = dp_I M 79 o := ⟨_, rfl⟩
  obtain ⟨M0, hM0⟩ : ∃ M0, M0 = dp_setI M 79 o v2 := ⟨_, rfl⟩
  have mI : ∀ k, k ≠ 79 → dp_I M0 k = dp_I M k := fun k hk => by rw [hM0, gII, if_neg hk]
  have mJ : dp_J M0 = dp_J M := by rw [hM0, gJI]
  have m79 : dp_I M0 79 = uI (dp_I M 79) o v2 := by rw [hM0, gII, if_pos rfl]
  obtain ⟨M1, r1, r2, r3, r4, r5, r6, r7, r8, r9, r10, r11⟩ := q_follow (xs := xs) (xl := xl) (d := d) (M := M0) (A := A) (o := o) (f := f) (e := e) (r := v2.toInt) hA (by omega) (by rw [mI 75 (by decide)]; exact a3) (by rw [mJ]; exact b8) q1 q2 (by omega) (by omega) (by rw [mI 77 (by decide)]; exact q5) (by rw [mI 78 (by decide)]; exact q6) (by rw [m79, uI_s]) (by rw [mJ]; exact q8) (by rw [mJ]; exact q9)
  have hqp : qp M0 A o = qp M A o := qp_c (mI 82 (by decide))
  have hcc : cC M0 A o f (nd f e v2.toInt) = cC M A o f (nd f e v2.toInt) := cC_c (mI 82 (by decide)) (mI 84 (by decide)) (mI 83 (by decide)) (by rw [mJ]) (fun y _ => by rw [mI 80 (by decide)]) (by rw [mJ]) _ (nd_le q1 q2)
  rw [hqp] at r5 r11
  rw [hcc] at r11
  obtain ⟨p, hp⟩ : ∃ p, p = qp M A o := ⟨_, rfl⟩
  obtain ⟨G, hG⟩ : ∃ G, G = gt (cC M A o f (nd f e v2.toInt)).2.1 (cC M A o f (nd f e v2.toInt)).2.2 p w A := ⟨_, rfl⟩
  rw [← hp] at r5 r11
  obtain ⟨m1, m2, m3⟩ := r5
  have hpA : ∀ a, p a = true → a < A := fun a ha => by rw [hp] at ha; exact qp_lt ha
  have hctA := ct_le p A
  have hgA := ct_le (fun a => p a && decide (¬ (cC M A o f (nd f e v2.toInt)).2.1 a ≤ w) && decide (¬ (cC M A o f (nd f e v2.toInt)).2.2 a ≤ 0)) A
  have hcl : dp_den true xs xl (d + 5) 315 [.ref 0, .int (nI o), .int v2] M = iR (nI G) M1 := by
    rw [hc0, if_pos ⟨g2, g3⟩, D_X5_runTo_0_den, D_X5_runTo_0_eq]
    simp only [nI_cl (show o < 2147483648 by omega), nI_o (show o < 16 by omega) (by omega), if_false, dp_w]
    rw [← hM0, r1, rb_bv, ← hw]
    have key := lpb (F := fun (n : Nat) a => D_X5_runTo_25 xs xl (d + 3) (nI o) v2 w (nI n) (nI (ct p a)) M1) (s := ct (fun a => p a && decide (¬ (cC M A o f (nd f e v2.toInt)).2.1 a ≤ w) && decide (¬ (cC M A o f (nd f e v2.toInt)).2.2 a ≤ 0))) (N := A) (r := (.inl (some (.int (nI G))), M1)) ?_ (fun a ha hr => ?_)
    · have k2 : D_X5_runTo_25 xs xl (d + 3) (nI o) v2 w 0 0 M1 = iR (nI G) M1 := key
      rw [k2, rb_bi]
    · (try dsimp only)
      rw [D_X5_runTo_25_eq, m2, if_pos (nI_lle (Nat.le_refl _) (by omega)), hG]
      rfl
    · (try dsimp only at hr); (try dsimp only)
      by_cases cp : p a = true
      · have h1 : ct p (a + 1) ≤ ct p A := ct_nm A (by omega)
        rw [ct_s cp] at h1
        rw [D_X5_runTo_25_eq, m2, if_neg (nI_nge (by omega) (by omega))]
        simp only [nI_cl (show ct p a < 2147483648 by omega), nI_o (show ct p a < 400 by omega) (by omega), if_false, m3 a ha cp, nI_cl (show a < 2147483648 by omega), nI_o (show a < 400 by omega) (by omega), (r11 a cp).1, (r11 a cp).2, lg_cmp_le, dp_w, nI_1, Int32.add_zero]
        rw [ct_s cp] at hr
        by_cases z1 : (cC M A o f (nd f e v2.toInt)).2.1 a ≤ w
        · rw [if_pos z1]
          rw [ct_n (by simp only [Bool.and_eq_true, decide_eq_true_eq]; exact fun q => q.1.2 z1)] at hr; exact hr
        · rw [if_neg z1]
          by_cases z2 : (cC M A o f (nd f e v2.toInt)).2.2 a ≤ 0
          · rw [if_pos z2]
            rw [ct_n (by simp only [Bool.and_eq_true, decide_eq_true_eq]; exact fun q => q.2 z2)] at hr; exact hr
          · rw [if_neg z2]
            rw [ct_s (by simp only [Bool.and_eq_true, decide_eq_true_eq]; exact ⟨⟨cp, z1⟩, z2⟩)] at hr; exact hr
      · rw [ct_n cp, ct_n (by simp only [Bool.and_eq_true]; exact fun q => cp q.1.1)] at hr
        exact hr
  have eI : ∀ k, k ≠ 75 → k ≠ 79 → k ≠ 87 → k ≠ 89 → dp_I M1 k = dp_I M k := fun k k1 k2 k3 k4 => by rw [r7 k k1 k3 k4, mI k k2]
  have eJ : ∀ k, k ≠ 81 → k ≠ 86 → dp_J M1 k = dp_J M k := fun k k1 k2 => by rw [r8 k k1 k2, mJ]
  have e79 : dp_I M1 79 = uI (dp_I M 79) o v2 := by rw [r7 79 (by decide) (by decide) (by decide), m79]
  have e114 := eI 114 (by decide) (by decide) (by decide) (by decide)
  obtain ⟨N, hN⟩ : ∃ N, N = dp_setI (dp_setI (dp_setJ M1 245 0 (nI G).toInt64) 114 0 0) 194 o v2 := ⟨_, rfl⟩
  have nI' : ∀ k, k ≠ 114 → k ≠ 194 → dp_I N k = dp_I M1 k := fun k k1 k2 => by rw [hN, gII, if_neg k2, gII, if_neg k1, gIJ]
  have nJ : ∀ k, k ≠ 245 → dp_J N k = dp_J M1 k := fun k k1 => by rw [hN, gJI, gJI, gJJ, if_neg k1]
  have n114 : ∀ i, i ≠ 0 → dp_I N 114 i = dp_I M 114 i := fun i hi => by rw [hN, gII, if_neg (by decide), gII, if_pos rfl, uI_n hi, gIJ, e114]
  have n194 : dp_I N 194 = uI (dp_I M 194) o v2 := by rw [hN, gII, if_pos rfl, gII, if_neg (by decide), gIJ, eI 194 (by decide) (by decide) (by decide) (by decide)]
  have relN : RelQ N := by
    refine ⟨O, A, hO, hA, ?_, ?_, ?_, ?_, ?_, ?_, ?_, ?_, ?_, ?_, ?_, ?_, fun a ha => ?_, fun o' ho' => ?_⟩
    · rw [nI' 75 (by decide) (by decide), r6, mI 75 (by decide)]; exact a1
    · rw [n114 105 (by decide)]; exact a2
    · rw [nI' 75 (by decide) (by decide)]; exact m1
    · rw [n114 111 (by decide)]; exact a4
    · rw [nJ 191 (by decide), nJ 76 (by decide), eJ 191 (by decide) (by decide), eJ 76 (by decide) (by decide)]; exact b1
    · rw [nI' 192 (by decide) (by decide), nI' 77 (by decide) (by decide), eI 192 (by decide) (by decide) (by decide) (by decide), eI 77 (by decide) (by decide) (by decide) (by decide)]; exact b2
    · rw [nI' 193 (by decide) (by decide), nI' 78 (by decide) (by decide), eI 193 (by decide) (by decide) (by decide) (by decide), eI 78 (by decide) (by decide) (by decide) (by decide)]; exact b3
    · rw [n194, nI' 79 (by decide) (by decide), e79, b4]
    · rw [nI' 195 (by decide) (by decide), nI' 80 (by decide) (by decide), eI 195 (by decide) (by decide) (by decide) (by decide), eI 80 (by decide) (by decide) (by decide) (by decide)]; exact b5
    · rw [nJ 198 (by decide), nJ 85 (by decide), eJ 198 (by decide) (by decide), eJ 85 (by decide) (by decide)]; exact b6
    · rw [nI' 80 (by decide) (by decide), eI 80 (by decide) (by decide) (by decide) (by decide)]; exact b7
    · rw [nJ 85 (by decide), eJ 85 (by decide) (by decide)]; exact b8
    · unfold mdy mdk
      rw [nI' 82 (by decide) (by decide), nI' 83 (by decide) (by decide), nI' 84 (by decide) (by decide), nI' 196 (by decide) (by decide), nI' 197 (by decide) (by decide), nI' 235 (by decide) (by decide), nI' 238 (by decide) (by decide), eI 82 (by decide) (by decide) (by decide) (by decide), eI 83 (by decide) (by decide) (by decide) (by decide), eI 84 (by decide) (by decide) (by decide) (by decide), eI 196 (by decide) (by decide) (by decide) (by decide), eI 197 (by decide) (by decide) (by decide) (by decide), eI 235 (by decide) (by decide) (by decide) (by decide), eI 238 (by decide) (by decide) (by decide) (by decide)]
      exact b9 a ha
    · have hq : QRw M1 A o' := by
        by_cases eo : o' = o
        · rw [eo]; exact r9
        · refine r10 o' (by omega) eo ((b10 o' ho').same (by omega) (mI 82 (by decide)) (mI 84 (by decide)) (mI 83 (by decide)) (by rw [mJ]) (fun y _ => by rw [mI 80 (by decide)]) (by rw [mJ]) (by rw [mI 77 (by decide)]) (by rw [mI 78 (by decide)]) (by rw [m79, uI_n eo]) (fun a _ => by rw [mI 87 (by decide), mJ]; exact ⟨rfl, rfl⟩) (fun y _ => by rw [mJ]))
      exact hq.same (by omega) (nI' 82 (by decide) (by decide)) (nI' 84 (by decide) (by decide)) (nI' 83 (by decide) (by decide)) (nJ 85 (by decide)) (fun y _ => by rw [nI' 80 (by decide) (by decide)]) (by rw [nJ 76 (by decide)]) (by rw [nI' 77 (by decide) (by decide)]) (by rw [nI' 78 (by decide) (by decide)]) (by rw [nI' 79 (by decide) (by decide)]) (fun a _ => by rw [nI' 87 (by decide) (by decide), nJ 86 (by decide)]; exact ⟨rfl, rfl⟩) (fun y _ => by rw [nJ 81 (by decide)])
  have oN : Off (245 :: RelQ_W) (0 :: RelQ_V) M N := by
    have x1 : Off (245 :: RelQ_W) (0 :: RelQ_V) M M0 := by rw [hM0]; exact (Off.rr _ _ _).I 79 (by decide) _ _
    rw [hN]
    exact (((x1.tr (r2.mono (by decide) (by decide))).J 245 (by decide) _ _).F 0 (by decide) _).I 194 (by decide) _ _
  -- the model's course
  have hcN : cC N A o f (nd f e v2.toInt) = cC M A o f (nd f e v2.toInt) := cC_c (by rw [nI' 82 (by decide) (by decide), eI 82 (by decide) (by decide) (by decide) (by decide)]) (by rw [nI' 84 (by decide) (by decide), eI 84 (by decide) (by decide) (by decide) (by decide)]) (by rw [nI' 83 (by decide) (by decide), eI 83 (by decide) (by decide) (by decide) (by decide)]) (by rw [nJ 85 (by decide), eJ 85 (by decide) (by decide)]) (fun y _ => by rw [nI' 80 (by decide) (by decide), eI 80 (by decide) (by decide) (by decide) (by decide)]) (by rw [nJ 76 (by decide), eJ 76 (by decide) (by decide)]) _ (nd_le q1 q2)
  obtain ⟨M', c1, c2, c3, c4, c5, c6, c7, c8⟩ := RelQ.course (xs := xs) (xl := xl) (d := d + 2) (M := N) (O := O) (A := A) (o := o) (u := v2) (f := f) (e := e) (n := nd f e v2.toInt) hA (by omega) (by rw [n114 111 (by decide)]; exact a4) (by rw [nJ 191 (by decide), nJ 76 (by decide), eJ 191 (by decide) (by decide), eJ 76 (by decide) (by decide)]; exact b1) (by rw [nI' 192 (by decide) (by decide), nI' 77 (by decide) (by decide), eI 192 (by decide) (by decide) (by decide) (by decide), eI 77 (by decide) (by decide) (by decide) (by decide)]; exact b2) (by rw [nI' 193 (by decide) (by decide), nI' 78 (by decide) (by decide), eI 193 (by decide) (by decide) (by decide) (by decide), eI 78 (by decide) (by decide) (by decide) (by decide)]; exact b3) (by rw [nI' 195 (by decide) (by decide), nI' 80 (by decide) (by decide), eI 195 (by decide) (by decide) (by decide) (by decide), eI 80 (by decide) (by decide) (by decide) (by decide)]; exact b5) (by rw [nJ 198 (by decide), nJ 85 (by decide), eJ 198 (by decide) (by decide), eJ 85 (by decide) (by decide)]; exact b6) (by rw [nJ 85 (by decide), eJ 85 (by decide) (by decide)]; exact b8)
    (fun a ha => by
      unfold mdy mdk
      rw [nI' 82 (by decide) (by decide), nI' 83 (by decide) (by decide), nI' 84 (by decide) (by decide), nI' 196 (by decide) (by decide), nI' 197 (by decide) (by decide), nI' 235 (by decide) (by decide), nI' 238 (by decide) (by decide), eI 82 (by decide) (by decide) (by decide) (by decide), eI 83 (by decide) (by decide) (by decide) (by decide), eI 84 (by decide) (by decide) (by decide) (by decide), eI 196 (by decide) (by decide) (by decide) (by decide), eI 197 (by decide) (by decide) (by decide) (by decide), eI 235 (by decide) (by decide) (by decide) (by decide), eI 238 (by decide) (by decide) (by decide) (by decide)]
      exact b9 a ha) q1 q2 (by rw [nI' 77 (by decide) (by decide), eI 77 (by decide) (by decide) (by decide) (by decide)]; exact q5) (by rw [nI' 78 (by decide) (by decide), eI 78 (by decide) (by decide) (by decide) (by decide)]; exact q6) (by rw [nJ 76 (by decide), eJ 76 (by decide) (by decide)]; exact q8) (by rw [nJ 76 (by decide), eJ 76 (by decide) (by decide)]; exact q9) rfl
  rw [hcN] at c7 c8
  rw [qp_c (show dp_I N 82 = dp_I M 82 by rw [nI' 82 (by decide) (by decide), eI 82 (by decide) (by decide) (by decide) (by decide)]), ← hp] at c8
  have m111 : dp_I M' 114 111 = nI A := by rw [c5 114 (by decide), n114 111 (by decide)]; exact a4
  have m197 : dp_I M' 197 = dp_I M 197 := by rw [c5 197 (by decide), nI' 197 (by decide) (by decide), eI 197 (by decide) (by decide) (by decide) (by decide)]
  have cnt : D_X12_run_68 xs xl (d + 5) (nI o) v2 w 0 0 M' = iR (nI G) M' := by
    refine lpb (F := fun (n : Nat) a => D_X12_run_68 xs xl (d + 5) (nI o) v2 w (nI n) (nI a) M') (s := ct (fun a => p a && decide (¬ (cC M A o f (nd f e v2.toInt)).2.1 a ≤ w) && decide (¬ (cC M A o f (nd f e v2.toInt)).2.2 a ≤ 0))) (N := A) ?_ (fun a ha hr => ?_)
    · (try dsimp only)
      rw [D_X12_run_68_eq, m111, if_pos (nI_lle (Nat.le_refl _) (by omega)), hG]
      rfl
    · (try dsimp only at hr); (try dsimp only)
      rw [D_X12_run_68_eq, m111, if_neg (nI_nge ha (by omega))]
      simp only [nI_cl (show a < 2147483648 by omega), nI_o (show a < 400 by omega) (by omega), if_false, m197, ← (b9 a ha).1, lg_cmp_le, dp_w, nI_1, Int32.add_zero]
      by_cases cp : p a = true
      · have co : dp_I M 82 a = nI o := by rw [hp] at cp; unfold qp at cp; simp only [Bool.and_eq_true, decide_eq_true_eq] at cp; exact cp.2
        rw [if_pos co, (c8 a cp).1, (c8 a cp).2]
        by_cases z1 : (cC M A o f (nd f e v2.toInt)).2.1 a ≤ w
        · rw [if_pos z1]
          rw [ct_n (by simp only [Bool.and_eq_true, decide_eq_true_eq]; exact fun q => q.1.2 z1)] at hr; exact hr
        · rw [if_neg z1]
          by_cases z2 : (cC M A o f (nd f e v2.toInt)).2.2 a ≤ 0
          · rw [if_pos z2]
            rw [ct_n (by simp only [Bool.and_eq_true, decide_eq_true_eq]; exact fun q => q.2 z2)] at hr; exact hr
          · rw [if_neg z2]
            rw [ct_s (by simp only [Bool.and_eq_true, decide_eq_true_eq]; exact ⟨⟨cp, z1⟩, z2⟩)] at hr; exact hr
      · have co : ¬ dp_I M 82 a = nI o := fun q => cp (by rw [hp]; unfold qp; simp only [Bool.and_eq_true, decide_eq_true_eq]; exact ⟨ha, q⟩)
        rw [if_neg co]
        rw [ct_n (by simp only [Bool.and_eq_true]; exact fun q => cp q.1.1)] at hr
        exact hr
  refine ⟨0, nI G, _, M', wL_run_ok hcl, ?_, ?_, fun _ => ?_, relN.crs c5 c6, oN.tr (c2.mono (by decide) (by decide)), ?_⟩
  · rw [hm0 _ (by rw [gIJ, e114]; exact a2) (by rw [gIJ, eI 194 (by decide) (by decide) (by decide) (by decide)]; exact b4), if_pos ⟨g2, g3⟩, ← hN, c1, rb_bv, ← hw]
    exact cnt
  · rw [c5 114 (by decide), hN, gII, if_neg (by decide), gII, if_pos rfl, uI_s]
  · rw [c6 245 (by decide) (by decide), hN, gJI, gJI, gJJ, if_pos rfl, uI_s]
  · have hnN : dp_n N = dp_n M ∧ dp_z N = dp_z M := by
      rw [hN]; exact ⟨by show dp_n M1 = _; rw [r3, hM0]; rfl, by show dp_z M1 = _; rw [r4, hM0]; rfl⟩
    exact ⟨by rw [c3, hnN.1]; omega, by rw [c4, hnN.2]; omega⟩
end QN
