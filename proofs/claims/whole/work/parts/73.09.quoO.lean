/-! QUOTAS: order, transfer -/
section QO
variable {xs : Nat → Int32} {xl d : Nat} {M : dp_M}
theorem s_order (h : RelQ M) (hn : 246 ≤ dp_n M) (v1 : Int64) (v3 v4 : Int32) : ∃ k b M1 M2, dp_den true xs xl (d + 5) 627 [.ref 0, .long v1, .int v3, .int v4, .ref 245] M = iR k M1 ∧ dp_den true xs xl (d + 5) 509 [.ref 114, .long v1, .int v3, .int v4] M1 = iR b M2 ∧
    dp_I M2 114 0 = k ∧ (k = 0 → dp_J M2 245 0 = b.toInt64) ∧ RelQ M2 ∧ Off (245 :: RelQ_W) (0 :: RelQ_V) M M2 ∧ Cst 1 6 M M2 := by
  have h0 := h
  obtain ⟨O, A, hO, hA, a1, a2, a3, a4, b1, b2, b3, b4, b5, b6, b7, b8, b9, b10⟩ := h
  have w400 : ∀ v : Int32, ((0 : Int64) ≤ v.toInt64 ∧ v.toInt64 ≤ (400 : Int64)) = qin v 401 := fun v => w_400
  have c0 : (0 : Int64).toInt = 0 := by decide
  have c400 : (400 : Int64).toInt = 400 := by decide
  have sp : qin v3 401 → ((v3.toInt64 ≤ v4.toInt64 ∧ v4.toInt64 ≤ (400 : Int64)) ↔ (qin v4 401 ∧ v3 ≤ v4)) := fun q => by
    have := qin_iff.mp q
    rw [qin_iff, Int64.le_iff_toInt_le, Int64.le_iff_toInt_le, Int32.toInt_toInt64, Int32.toInt_toInt64, c400, Int32.le_iff_toInt_le]; omega
  by_cases g : (1 ≤ v1 ∧ v1 ≤ 1000000000) ∧ qin v3 401 ∧ qin v4 401 ∧ v3 ≤ v4
  case neg =>
    refine ⟨1, 0, dp_new M 0 0 6, _, wL_order_x0 ?_, ?_, rfl, (fun e => by cases e), h0.refused hn 1⟩
    · rw [D_X11_order_0_den, D_X11_order_0_eq]
      simp only [q_win, rb_bi, ibz, q_nk hn, w400]
      by_cases z1 : (1 : Int64) ≤ v1 ∧ v1 ≤ 1000000000
      case neg => rw [if_neg z1]
      rw [if_pos z1]
      by_cases z2 : qin v3 401
      case neg => rw [if_neg z2]
      rw [if_pos z2, if_neg (fun q => g ⟨z1, z2, (sp z2).mp q⟩)]
    · rw [D_X12_order_0_den, D_X12_order_0_eq]
      simp only [q_min, qm_span, q_ref, rb_bi, ibz]
      by_cases z1 : (1 : Int64) ≤ v1 ∧ v1 ≤ 1000000000
      case neg => rw [if_neg z1]
      rw [if_pos z1]
      by_cases z2 : qin v3 401
      case neg => rw [if_neg z2]
      rw [if_pos z2]
      by_cases z3 : qin v4 401
      case neg => rw [if_neg z3]
      rw [if_pos z3, if_neg (fun q => g ⟨z1, z2, z3, q⟩)]
  obtain ⟨g1, g2, g3, g4⟩ := g
  by_cases gO : O < 16
  case neg =>
    refine ⟨2, 0, dp_new M 0 0 6, _, wL_order_x1 ?_, ?_, rfl, (fun e => by cases e), h0.refused hn 2⟩
    · rw [D_X11_order_0_den, D_X11_order_0_eq]
      simp only [q_win, rb_bi, ibz, q_nk hn, w400, if_pos g1, if_pos g2, if_pos ((sp g2).mpr ⟨g3, g4⟩), a1]
      rw [if_neg (show ¬ nI (O) < (16 : Int32) from nI_nlt (a := O) (b := 16) (by omega) (by omega))]
    · rw [D_X12_order_0_den, D_X12_order_0_eq]
      simp only [q_min, qm_span, q_ref, rb_bi, ibz, if_pos g1, if_pos g2, if_pos g3, if_pos g4]
      rw [if_pos (show dp_I (dp_new M 0 0 6) 114 105 = 16 by rw [gIN (by omega), a2, show O = 16 by omega]; rfl)]
  obtain ⟨f, hf, rfl⟩ := qin_of g2 (by omega)
  obtain ⟨e, he, rfl⟩ := qin_of g3 (by omega)
  have hfe : f ≤ e := by rw [Int32.le_iff_toInt_le, nI_toInt (by omega), nI_toInt (by omega)] at g4; omega
  have hv1 : 1 ≤ v1.toInt ∧ v1.toInt ≤ 1000000000 := by
    have e1 : (1 : Int64).toInt = 1 := by decide
    have e2 : (1000000000 : Int64).toInt = 1000000000 := by decide
    rw [Int64.le_iff_toInt_le, Int64.le_iff_toInt_le, e1, e2] at g1; exact g1
  have hpr : nI (O + 1) - 1 = nI O := nI_pred O
  have hcl : dp_den true xs xl (d + 4) 314 [.ref 0, .long v1, .int (nI f), .int (nI e)] M = iR (nI O) (dp_setI (dp_setI (dp_setI (dp_setI (dp_setJ M 76 O v1) 77 O (nI f)) 78 O (nI e)) 79 O (nI f - 1)) 75 0 (nI (O + 1))) := by
    rw [D_X11_order_0_den, D_X11_order_0_eq]
    simp only [q_win, rb_bi, ibz, w400, if_pos g1, if_pos g2, if_pos ((sp g2).mpr ⟨g3, g4⟩), a1]
    rw [if_pos (show nI (O) < (16 : Int32) from nI_lt (a := O) (b := 16) (by omega) (by omega)), D_X5_addOrder_0_den, D_X5_addOrder_0_eq]
    simp only [gII, gIJ, Nat.reduceEqDiff, if_false, a1, nI_cl (show O < 2147483648 by omega), nI_o (show O < 16 by omega) (by omega), dp_w, nI_1, if_true, uI_s, hpr, rb_bi]
  obtain ⟨N, hN⟩ : ∃ N, N = dp_setI (dp_setJ (dp_setI (dp_setI (dp_setI (dp_setI (dp_setJ M 76 O v1) 77 O (nI f)) 78 O (nI e)) 79 O (nI f - 1)) 75 0 (nI (O + 1))) 245 0 (nI O).toInt64) 114 0 0 := ⟨_, rfl⟩
  have eN105 : dp_I N 114 105 = nI O := by rw [hN]; simp [gII, gIJ, gIR, gJI, gJJ, gJR, gRI, gRJ, glI, glJ, glR, uI]; exact a2
  have hmo : dp_den true xs xl (d + 5) 509 [.ref 114, .long v1, .int (nI f), .int (nI e)] (dp_setJ (dp_setI (dp_setI (dp_setI (dp_setI (dp_setJ M 76 O v1) 77 O (nI f)) 78 O (nI e)) 79 O (nI f - 1)) 75 0 (nI (O + 1))) 245 0 (nI O).toInt64) = iR (nI O) (dp_setI (dp_setI (dp_setI (dp_setI (dp_setJ N 191 O v1) 192 O (nI f)) 193 O (nI e)) 194 O (nI f - 1)) 114 105 (nI (O + 1))) := by
    rw [D_X12_order_0_den, D_X12_order_0_eq]
    simp only [q_min, qm_span, q_ref, rb_bi, ibz, if_pos g1, if_pos g2, if_pos g3, if_pos g4, dp_w]
    rw [if_neg, ← hN]
    · simp only [gII, gIJ, Nat.reduceEqDiff, if_false, eN105, nI_cl (show O < 2147483648 by omega), nI_o (show O < 16 by omega) (by omega), nI_1, if_true, uI_s, hpr]
    · have : dp_I (dp_setJ (dp_setI (dp_setI (dp_setI (dp_setI (dp_setJ M 76 O v1) 77 O (nI f)) 78 O (nI e)) 79 O (nI f - 1)) 75 0 (nI (O + 1))) 245 0 (nI O).toInt64) 114 105 = nI O := by simp [gII, gIJ, gIR, gJI, gJJ, gJR, gRI, gRJ, glI, glJ, glR, uI]; exact a2
      rw [this]; exact (show ¬ nI (O) = (16 : Int32) from fun e => absurd ((nI_eq (a := O) (b := 16) (by omega) (by omega)).mp e) (by omega))
  refine ⟨0, nI O, _, dp_setI (dp_setI (dp_setI (dp_setI (dp_setJ N 191 O v1) 192 O (nI f)) 193 O (nI e)) 194 O (nI f - 1)) 114 105 (nI (O + 1)), wL_order_ok hcl, hmo, ?_, fun _ => ?_, ?_, ?_, ?_⟩
  · rw [hN]; simp [gII, gIJ, gIR, gJI, gJJ, gJR, gRI, gRJ, glI, glJ, glR, uI]
  · rw [hN]; simp [gII, gIJ, gIR, gJI, gJJ, gJR, gRI, gRJ, glI, glJ, glR, uI]
  · rw [hN]
    refine ⟨O + 1, A, by omega, hA, by simp [gII, gIJ, gIR, gJI, gJJ, gJR, gRI, gRJ, glI, glJ, glR, uI], by simp [gII, gIJ, gIR, gJI, gJJ, gJR, gRI, gRJ, glI, glJ, glR, uI], by simp [gII, gIJ, gIR, gJI, gJJ, gJR, gRI, gRJ, glI, glJ, glR, uI]; exact a3, by simp [gII, gIJ, gIR, gJI, gJJ, gJR, gRI, gRJ, glI, glJ, glR, uI]; exact a4, by simp only [gII, gIJ, gJI, gJJ, Nat.reduceEqDiff, if_false, if_true, b1], by simp only [gII, gIJ, Nat.reduceEqDiff, if_false, if_true, b2], by simp only [gII, gIJ, Nat.reduceEqDiff, if_false, if_true, b3], by simp only [gII, gIJ, Nat.reduceEqDiff, if_false, if_true, b4], by simp only [gII, gIJ, Nat.reduceEqDiff, if_false]; exact b5, by simp only [gJI, gJJ, Nat.reduceEqDiff, if_false]; exact b6, by simp only [gII, gIJ, Nat.reduceEqDiff, if_false]; exact b7, by simp only [gJI, gJJ, Nat.reduceEqDiff, if_false]; exact b8, fun a ha => ?_, fun o ho => ?_⟩
    · unfold mdy mdk
      simp only [gII, gIJ, Nat.reduceEqDiff, if_false]
      obtain ⟨x1, x2, x3, x4, x5⟩ := b9 a ha
      have := qin_iff.mp x2
      exact ⟨x1, qin_iff.mpr (by omega), x3, x4, x5⟩
    · by_cases eo : o = O
      · subst eo
        have hr : (nI f - 1).toInt = (f : Int) - 1 := q_pre (by omega)
        have hz : nd f e ((f : Int) - 1) = 0 := by unfold nd; split <;> omega
        refine ⟨f, e, (f : Int) - 1, hfe, by omega, by omega, by omega, ?_, ?_, ?_, ?_, ?_, fun a ha => ?_, fun i hi => by rw [hz] at hi; omega⟩
        all_goals try simp only [gII, gIJ, gJI, gJJ, Nat.reduceEqDiff, if_false, if_true, uI_s]
        · exact hr
        · omega
        · omega
        · exfalso
          unfold qp at ha
          simp only [gII, gIJ, Nat.reduceEqDiff, if_false, Bool.and_eq_true, decide_eq_true_eq] at ha
          have := (b9 a ha.1).2.1
          rw [ha.2, qin_iff, nI_toInt (by omega)] at this
          omega
      · refine (b10 o (by omega)).same (by omega) ?_ ?_ ?_ ?_ (fun x _ => ?_) ?_ ?_ ?_ ?_ (fun a _ => ?_) (fun x _ => ?_)
        all_goals simp only [gII, gIJ, gJI, gJJ, Nat.reduceEqDiff, if_false, if_true, uI_n eo]
        exact ⟨trivial, trivial⟩
  · rw [hN]
    repeat first | apply Off.F _ (by decide) | apply Off.I _ (by decide) | apply Off.J _ (by decide)
    exact Off.rr _ _ _
  · rw [hN]; exact ⟨Nat.le_add_right _ _, Nat.le_add_right _ _⟩
end QO
