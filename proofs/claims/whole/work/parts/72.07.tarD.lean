/-! THE TARIFF: end, row -/
section TF
variable {xs : Nat → Int32} {xl d : Nat} {M : dp_M}
theorem RelT.refused (h : RelT M) (hn : 246 ≤ dp_n M) (k : Int32) : RelT (dp_setI (dp_new M 0 0 6) 114 0 k) ∧ Off (245 :: RelT_S) (0 :: RelT_T) M (dp_setI (dp_new M 0 0 6) 114 0 k) ∧ Cst 1 6 M (dp_setI (dp_new M 0 0 6) 114 0 k) :=
  ⟨RelT_off h (((Off.rr [] [0] M).N hn 0 0 6).F 0 (by decide) k) (by decide) (by decide), ((Off.rr _ _ M).N hn 0 0 6).F 0 (by decide) k, ⟨Nat.le_refl _, Nat.le_refl _⟩⟩
theorem RelT.looked (h : RelT M) (v : Int64) : RelT (dp_setI (dp_setJ M 245 0 v) 114 0 0) ∧ Off (245 :: RelT_S) (0 :: RelT_T) M (dp_setI (dp_setJ M 245 0 v) 114 0 0) ∧ Cst 1 6 M (dp_setI (dp_setJ M 245 0 v) 114 0 0) :=
  ⟨RelT_off h (((Off.rr [245] [0] M).J 245 (by decide) 0 v).F 0 (by decide) 0) (by decide) (by decide), ((Off.rr _ _ M).J 245 (by decide) 0 v).F 0 (by decide) 0, ⟨Nat.le_add_right _ _, Nat.le_add_right _ _⟩⟩
theorem q_n8 {n : Nat} (h : n ≤ 8) : (nI n = (8 : Int32)) ↔ n = 8 := by
  rw [show (8 : Int32) = nI 8 from rfl, nI_eq (by omega) (by omega)]
/-- end -/
theorem s_end (h : RelT M) (hn : 246 ≤ dp_n M) (v1 v2 v3 : Int32) : ∃ k b M1 M2, dp_den true xs xl (d + 5) 620 [.ref 0, .int v1, .int v2, .int v3, .ref 245] M = iR k M1 ∧ dp_den true xs xl (d + 5) 456 [.ref 114, .int v1, .int v2, .int v3] M1 = iR b M2 ∧
    dp_I M2 114 0 = k ∧ (k = 0 → dp_J M2 245 0 = b.toInt64) ∧ RelT M2 ∧ Off (245 :: RelT_S) (0 :: RelT_T) M M2 ∧ Cst 1 6 M M2 := by
  have h0 := h
  obtain ⟨R, K, hR, hK, a1, a2, a3, a4, a5, a6, a7, a8, a9, a10, a11, a12, a13⟩ := h
  have mm : ∀ (N : dp_M) (d : Nat), dp_I N 114 55 = nI R → dp_den true xs xl (d + 1) 451 [.ref 114, .int v1] N = iR (bI (wi v1 1 R)) N := fun N d hN => tm_meas hN hR
  by_cases g1 : wi v1 1 R
  case neg =>
    refine ⟨1, 0, dp_new M 0 0 6, _, wL_end_x2 ?_, ?_, rfl, (fun e => by cases e), h0.refused hn 1⟩
    · rw [D_X11_end_0_den, D_X11_end_0_eq, tc_meas a1 hR, rb_bi, ibz, if_neg g1, q_nk hn]
    · rw [D_X12_end_0_den, D_X12_end_0_eq, mm _ _ (by rw [gIN (by omega)]; exact a2), rb_bi, ibz, if_neg g1, q_ref, rb_bi]
  by_cases g2 : (qin v2 10001 ∨ v2 = 20000) ∧ qin v3 10001
  case neg =>
    refine ⟨2, 0, dp_new M 0 0 6, _, wL_end_x0 ?_, ?_, rfl, (fun e => by cases e), h0.refused hn 2⟩
    · rw [D_X11_end_0_den, D_X11_end_0_eq, tc_meas a1 hR, rb_bi, ibz, if_pos g1]
      simp only [tc_last, tc_day, rb_bi, ibz, q_nk hn]
      repeat' split
      all_goals first | rfl | (exfalso; exact g2 ⟨by assumption, by assumption⟩)
    · rw [D_X12_end_0_den, D_X12_end_0_eq, mm _ _ (by rw [gIN (by omega)]; exact a2), rb_bi, ibz, if_pos g1]
      simp only [tm_day, rb_bi, ibz, D_X12_end_28_eq, q_ref]
      by_cases q1 : qin v2 10001
      · rw [if_pos q1, if_neg (fun q => g2 ⟨Or.inl q1, q⟩)]
      · rw [if_neg q1]
        by_cases q2 : v2 = 20000
        · rw [if_pos q2, if_neg (fun q => g2 ⟨Or.inr q2, q⟩)]
        · rw [if_neg q2]
  obtain ⟨g2, g3⟩ := g2
  obtain ⟨r, hr1, hr2, rfl⟩ := wi_of (a := 1) (b := R) g1 (by omega)
  obtain ⟨n, b1, b2, b3, b4, b5, b6, b7, b8, b9, b10, b11, b12, b13, b14, b15⟩ := a13 r hr1 hr2
  -- the model, up to the last question
  have hm0 : ∀ N : dp_M, dp_I N 114 55 = nI R → dp_den true xs xl (d + 5) 456 [.ref 114, .int (nI r), .int v2, .int v3] N = D_X12_end_28 xs xl (d + 4) (nI r) v2 v3 N := fun N hN => by
    rw [D_X12_end_0_den, D_X12_end_0_eq, mm _ _ hN, rb_bi, ibz, if_pos g1]
    simp only [tm_day, rb_bi, ibz]
    by_cases q1 : qin v2 10001
    · rw [if_pos q1]
    · rw [if_neg q1, if_pos (g2.resolve_left q1)]
  have hc0 : dp_den true xs xl (d + 4) 303 [.ref 0, .int (nI r), .int v2, .int v3] M = if n = 8 then xR 1 (dp_new M 0 0 6) else if dp_I M 158 r ≤ v2 then dp_den true xs xl (d + 3) 215 [.ref 51, .int (nI r), .int v2, .int v3] M else iR 0 M := by
    rw [D_X11_end_0_den, D_X11_end_0_eq, tc_meas a1 hR, rb_bi, ibz, if_pos g1]
    simp only [tc_last, tc_day, rb_bi, ibz, q_nk hn, if_pos g2, if_pos g3, nI_cl (show r < 2147483648 by omega), nI_o (show r < 301 by omega) (by omega), if_false, b4, b7]
    by_cases q : n = 8
    · rw [if_pos q, if_neg (by rw [q]; decide)]
    · rw [if_neg q, if_pos (show nI (n) < (8 : Int32) from nI_lt (a := n) (b := 8) (by omega) (by omega)), tc_addEnd (by omega) (by omega) b4]
      rfl
  have hm1 : ∀ N : dp_M, dp_I N 164 r = nI n → D_X12_end_28 xs xl (d + 4) (nI r) v2 v3 N = if n = 8 then iR 0 (dp_setI N 114 0 3) else if dp_I N 158 r ≤ v2 then iR (nI (n + 1)) (dp_setI (dp_setI (dp_setI (dp_setI (dp_setI N 114 0 0) 165 (r * 8 + n) v2) 166 (r * 8 + n) v3) 164 r (nI (n + 1))) 114 67 (if v3 ≤ dp_I N 114 67 then dp_I N 114 67 else v3)) else iR 0 (dp_setI N 114 0 0) := fun N hN => by
    rw [D_X12_end_28_eq]
    simp only [tm_day, rb_bi, ibz, if_pos g3, nI_cl (show r < 2147483648 by omega), nI_o (show r < 301 by omega) (by omega), if_false, hN, q_n8 b2, q_ref, dp_w]
    by_cases q : n = 8
    · rw [if_pos q, if_pos q]
    · have e1 : dp_I (dp_setI N 114 0 0) 158 = dp_I N 158 := by simp [gII, gIJ, gIR, gJI, gJJ, gJR, gRI, gRJ, glI, glJ, glR, uI]
      have e2 : dp_I (dp_setI N 114 0 0) 164 = dp_I N 164 := by simp [gII, gIJ, gIR, gJI, gJJ, gJR, gRI, gRJ, glI, glJ, glR, uI]
      rw [if_neg q, if_neg q, e1]
      by_cases q2 : dp_I N 158 r ≤ v2
      · rw [if_pos q2, if_pos q2]
        simp only [e2, hN, t_jx8, nI_cl (show r * 8 + n < 2147483648 by omega), nI_o (show r * 8 + n < 2408 by omega) (by omega), if_false, gII, Nat.reduceEqDiff, if_true, nI_1, uI_s, uI_n (show (67 : Nat) ≠ 0 by decide)]
        split <;> rfl
      · rw [if_neg q2, if_neg q2]
  by_cases g4 : n = 8
  · refine ⟨3, 0, dp_new M 0 0 6, _, wL_end_x1 (by rw [hc0, if_pos g4]), ?_, rfl, (fun e => by cases e), h0.refused hn 3⟩
    rw [hm0 _ (by rw [gIN (by omega)]; exact a2), hm1 _ (by rw [gIN (by omega)]; exact b3), if_pos g4]
  by_cases g5 : dp_I M 158 r ≤ v2
  case neg =>
    refine ⟨0, 0, dp_setJ M 245 0 0, _, wL_end_ok (x := 0) (M1 := M) (by rw [hc0, if_neg g4, if_neg g5]), ?_, ?_, fun _ => ?_, h0.looked 0⟩
    · rw [hm0 _ (by rw [gIJ]; exact a2), hm1 _ (by rw [gIJ]; exact b3), if_neg g4, gIJ, if_neg g5]
    · simp [gII, uI]
    · simp [gJI, gJJ, uI]
  have hc1 : dp_den true xs xl (d + 4) 303 [.ref 0, .int (nI r), .int v2, .int v3] M = iR (nI (n + 1)) (dp_setI (dp_setI (dp_setI M 63 (r * 8 + n) v2) 64 (r * 8 + n) v3) 54 r (nI (n + 1))) := by
    rw [hc0, if_neg g4, if_pos g5, tc_addEnd (by omega) (by omega) b4]
  refine ⟨0, nI (n + 1), _, dp_setI (dp_setI (dp_setI (dp_setI (dp_setI (dp_setJ (dp_setI (dp_setI (dp_setI M 63 (r * 8 + n) v2) 64 (r * 8 + n) v3) 54 r (nI (n + 1))) 245 0 (nI (n + 1)).toInt64) 114 0 0) 165 (r * 8 + n) v2) 166 (r * 8 + n) v3) 164 r (nI (n + 1))) 114 67 (if v3 ≤ dp_I M 114 67 then dp_I M 114 67 else v3), wL_end_ok hc1, ?_, ?_, fun _ => ?_, ?_, ?_, ?_⟩
  · rw [hm0 _ (by simp [gII, gIJ, gIR, gJI, gJJ, gJR, gRI, gRJ, glI, glJ, glR, uI, a2]), hm1 _ (by simp [gII, gIJ, gIR, gJI, gJJ, gJR, gRI, gRJ, glI, glJ, glR, uI]; exact b3), if_neg g4]
    simp only [gIJ, gII, Nat.reduceEqDiff, if_false]
    rw [if_pos g5]
  · simp [gII, uI]
  · simp [gJI, gJJ, uI]
  · have q12 := qin_iff.mp a12
    have q3 := qin_iff.mp g3
    have lat : dp_I M 114 67 ≤ (if v3 ≤ dp_I M 114 67 then dp_I M 114 67 else v3) ∧ v3 ≤ (if v3 ≤ dp_I M 114 67 then dp_I M 114 67 else v3) ∧ qin (if v3 ≤ dp_I M 114 67 then dp_I M 114 67 else v3) 10001 := by
      by_cases c : v3 ≤ dp_I M 114 67
      · rw [if_pos c]; exact ⟨Int32.le_refl _, c, a12⟩
      · rw [if_neg c]; exact ⟨Int32.le_of_lt (Int32.not_le.mp c), Int32.le_refl _, g3⟩
    generalize (if v3 ≤ dp_I M 114 67 then dp_I M 114 67 else v3) = L at lat
    refine ⟨R, K, hR, hK, by simp [gII, gIJ, gIR, gJI, gJJ, gJR, gRI, gRJ, glI, glJ, glR, uI, a1], by simp [gII, gIJ, gIR, gJI, gJJ, gJR, gRI, gRJ, glI, glJ, glR, uI, a2], by simp [gII, gIJ, gIR, gJI, gJJ, gJR, gRI, gRJ, glI, glJ, glR, uI, a3], by simp [gII, gIJ, gIR, gJI, gJJ, gJR, gRI, gRJ, glI, glJ, glR, uI, a4], by simp [gII, gIJ, gIR, gJI, gJJ, gJR, gRI, gRJ, glI, glJ, glR, uI, a5], fun i hi => by simp only [gII, gIJ, Nat.reduceEqDiff, if_false]; exact a6 i hi, fun k hk => by simp only [gII, gIJ, Nat.reduceEqDiff, if_false]; exact a7 k hk, by simp only [gII, gIJ, Nat.reduceEqDiff, if_false]; exact a8, by simp only [gII, gIJ, Nat.reduceEqDiff, if_false]; exact a9, by simp only [gII, gIJ, Nat.reduceEqDiff, if_false]; exact a10, by simp only [gII, gIJ, Nat.reduceEqDiff, if_false]; exact a11, by simp only [gII, gIJ, Nat.reduceEqDiff, if_false, if_true, uI_s]; exact lat.2.2, fun s hs1 hs2 => ?_⟩
    by_cases e : s = r
    · subst e
      refine ⟨n + 1, by omega, by omega, by simp only [gII, gIJ, Nat.reduceEqDiff, if_false, if_true, uI_s], by simp only [gII, gIJ, Nat.reduceEqDiff, if_false, if_true, uI_s], ?_, ?_, ?_, ?_, ?_, ?_, ?_, ?_, ?_, ?_, fun k hk => ?_⟩
      all_goals simp only [gII, gIJ, Nat.reduceEqDiff, if_false, if_true, uI_s]
      · exact b5
      · exact b6
      · exact b7
      · exact b8
      · exact b9
      · exact b10
      · exact b11
      · exact b12
      · exact b13
      · rw [uI_n (by omega)]; exact b14
      · by_cases z : k = n
        · subst z
          rw [uI_s, uI_s, uI_s, uI_s]
          exact ⟨rfl, rfl, g3, lat.2.1⟩
        · rw [uI_n (by omega), uI_n (by omega), uI_n (by omega), uI_n (by omega)]
          obtain ⟨c1, c2, c3, c4⟩ := b15 k (by omega)
          exact ⟨c1, c2, c3, Int32.le_trans c4 lat.1⟩
    · refine (a13 s hs1 hs2).same ?_ (fun k hk => ?_) ?_
      · simp [gII, gIJ, uI_n e]
      · simp only [gII, gIJ, Nat.reduceEqDiff, if_false, if_true]
        rw [uI_n (by omega), uI_n (by omega), uI_n (by omega), uI_n (by omega)]
        exact ⟨rfl, rfl, rfl, rfl⟩
      · simp only [gII, gIJ, Nat.reduceEqDiff, if_false, if_true, uI_s]
        exact lat.1
  · repeat first | apply Off.F _ (by decide) | apply Off.I _ (by decide) | apply Off.J _ (by decide)
    exact Off.rr _ _ _
  · exact ⟨Nat.le_add_right _ _, Nat.le_add_right _ _⟩
end TF
