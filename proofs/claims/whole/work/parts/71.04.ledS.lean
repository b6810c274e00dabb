/-! THE LEDGER: simple calls -/
section LES2
variable {xs : Nat → Int32} {xl d : Nat} {M : dp_M}
theorem lc_kind {v : Int32} : dp_den true xs xl (d + 2) 342 [.int v] M = iR (bI (qin v 4)) M := by
  rw [D_X11_isAccountKind_0_den, D_X11_isAccountKind_0_eq]; exact q_cr (by decide)
theorem lm_kind {v : Int32} : dp_den true xs xl (d + 2) 559 [.int v] M = iR (bI (qin v 4)) M := by
  rw [D_X12_isKind_0_den, D_X12_isKind_0_eq]; exact q_mc (by decide)
theorem lc_acc {v : Int32} : dp_den true xs xl (d + 2) 334 [.int v] M = iR (bI (qin v 12)) M := by
  rw [D_X11_isAccount_0_den, D_X11_isAccount_0_eq]; exact q_cr (by decide)
/-- share -/
theorem s_share (h : RelL M) (v1 v2 v3 : Int32) : ∃ v M1 M2, dp_den true xs xl (d + 3) 343 [.ref 0, .int v1, .int v2, .int v3] M = iR v M1 ∧ dp_den true xs xl (d + 3) 560 [.ref 114, .int v1, .int v2, .int v3] M1 = iR v M2 ∧ RelL M2 ∧ Off RelL_S (0 :: RelL_T) M M2 ∧ Cst 0 0 M M2 := by
  have h0 := h
  rw [D_X11_share_0_den, D_X11_share_0_eq]
  simp only [D_X12_share_0_den, D_X12_share_0_eq, lc_kind, lm_kind, q_win, q_min, rb_bi, ibz, w_3, w_1000, dp_w]
  by_cases g : qin v1 4 ∧ qin v2 4 ∧ qin v3 1001
  case neg =>
    refine ⟨0, M, dp_setI M 114 0 0, ?_, ?_, RelL_off h0 ((Off.rr [] [0] M).F 0 (by decide) 0) (by decide) (by decide), (Off.rr _ _ M).F 0 (by decide) 0, ⟨Nat.le_refl _, Nat.le_refl _⟩⟩
    · repeat' split
      all_goals first | rfl | (exfalso; exact g ⟨by assumption, by assumption, by assumption⟩)
    · repeat' split
      all_goals first | rfl | (exfalso; exact g ⟨by assumption, by assumption, by assumption⟩)
  obtain ⟨g1, g2, g3⟩ := g
  obtain ⟨j, hj, rfl⟩ := qin_of g1 (by omega)
  obtain ⟨k, hk, rfl⟩ := qin_of g2 (by omega)
  have e1 : nI j * (4 : Int32) + nI k = nI (j * 4 + k) := by rw [show (4 : Int32) = nI 4 from rfl, pk_mul, nI_add]
  have e2 : (4 : Int32) * nI j + nI k = nI (j * 4 + k) := by rw [show (4 : Int32) = nI 4 from rfl, pk_mul, nI_add, Nat.mul_comm]
  simp only [if_pos g1, if_pos g2, if_pos g3, e1, e2, nI_cl (show j * 4 + k < 2147483648 by omega), nI_o (show j * 4 + k < 16 by omega) (by omega), if_false]
  refine ⟨1, _, _, rfl, rfl, ?_, ?_, ⟨Nat.le_refl _, Nat.le_refl _⟩⟩
  · obtain ⟨B, E, hB8, hE4, a1, a2, a3, a4, a5, a6, a7, a8, a9, a10, a11, a12, a13, a14, a15, a16⟩ := h
    refine ⟨B, E, hB8, hE4, by simp [gII, gIJ, gIR, gJI, gJJ, gJR, gRI, gRJ, glI, glJ, glR, uI, a1], by simp [gII, gIJ, gIR, gJI, gJJ, gJR, gRI, gRJ, glI, glJ, glR, uI, a2], by simp [gII, gIJ, gIR, gJI, gJJ, gJR, gRI, gRJ, glI, glJ, glR, uI, a3], by simp [gII, gIJ, gIR, gJI, gJJ, gJR, gRI, gRJ, glI, glJ, glR, uI, a4], by simp [gII, gIJ, gIR, gJI, gJJ, gJR, gRI, gRJ, glI, glJ, glR, uI, a5], by simp [gII, gIJ, gIR, gJI, gJJ, gJR, gRI, gRJ, glI, glJ, glR, uI, a6], by simp [gII, gIJ, gIR, gJI, gJJ, gJR, gRI, gRJ, glI, glJ, glR, uI, a7], by simp [gII, gIJ, gIR, gJI, gJJ, gJR, gRI, gRJ, glI, glJ, glR, uI, a8], by simp [gII, gIJ, gIR, gJI, gJJ, gJR, gRI, gRJ, glI, glJ, glR, uI, a9], by simp [gII, a10], by simp [gII, a11], fun i => ?_, by simp only [gII, Nat.reduceEqDiff, if_false]; exact a13, fun b hb => (a14 b hb).same (fun k hk => by simp [gII]) (fun k hk => by simp [gII, gJI]) (by simp [gII]), by simp only [gII, Nat.reduceEqDiff, if_false]; exact a15, by simp only [gII, Nat.reduceEqDiff, if_false]; exact a16⟩
    simp only [gII, Nat.reduceEqDiff, if_false, if_true, uI]
    split
    · exact g3
    · exact a12 i
  · repeat first | apply Off.F _ (by decide) | apply Off.I _ (by decide) | apply Off.J _ (by decide)
    exact Off.rr _ _ _
/-- cost -/
theorem s_cost (h : RelL M) (v1 v2 : Int32) : ∃ v M1 M2, dp_den true xs xl (d + 3) 344 [.ref 0, .int v1, .int v2] M = iR v M1 ∧ dp_den true xs xl (d + 3) 561 [.ref 114, .int v1, .int v2] M1 = iR v M2 ∧ RelL M2 ∧ Off RelL_S (0 :: RelL_T) M M2 ∧ Cst 0 0 M M2 := by
  have h0 := h
  rw [D_X11_cost_0_den, D_X11_cost_0_eq]
  simp only [D_X12_cost_0_den, D_X12_cost_0_eq, lc_kind, lm_kind, q_win, q_min, rb_bi, ibz, w_3, w_1000, dp_w]
  by_cases g : qin v1 4 ∧ qin v2 1001
  case neg =>
    refine ⟨0, M, dp_setI M 114 0 0, ?_, ?_, RelL_off h0 ((Off.rr [] [0] M).F 0 (by decide) 0) (by decide) (by decide), (Off.rr _ _ M).F 0 (by decide) 0, ⟨Nat.le_refl _, Nat.le_refl _⟩⟩
    · repeat' split
      all_goals first | rfl | (exfalso; exact g ⟨by assumption, by assumption⟩)
    · repeat' split
      all_goals first | rfl | (exfalso; exact g ⟨by assumption, by assumption⟩)
  obtain ⟨g1, g2⟩ := g
  obtain ⟨j, hj, rfl⟩ := qin_of g1 (by omega)
  simp only [if_pos g1, if_pos g2, nI_cl (show j < 2147483648 by omega), nI_o (show j < 4 by omega) (by omega), if_false]
  refine ⟨1, _, _, rfl, rfl, ?_, ?_, ⟨Nat.le_refl _, Nat.le_refl _⟩⟩
  · obtain ⟨B, E, hB8, hE4, a1, a2, a3, a4, a5, a6, a7, a8, a9, a10, a11, a12, a13, a14, a15, a16⟩ := h
    refine ⟨B, E, hB8, hE4, by simp [gII, gIJ, gIR, gJI, gJJ, gJR, gRI, gRJ, glI, glJ, glR, uI, a1], by simp [gII, gIJ, gIR, gJI, gJJ, gJR, gRI, gRJ, glI, glJ, glR, uI, a2], by simp [gII, gIJ, gIR, gJI, gJJ, gJR, gRI, gRJ, glI, glJ, glR, uI, a3], by simp [gII, gIJ, gIR, gJI, gJJ, gJR, gRI, gRJ, glI, glJ, glR, uI, a4], by simp [gII, gIJ, gIR, gJI, gJJ, gJR, gRI, gRJ, glI, glJ, glR, uI, a5], by simp [gII, gIJ, gIR, gJI, gJJ, gJR, gRI, gRJ, glI, glJ, glR, uI, a6], by simp [gII, gIJ, gIR, gJI, gJJ, gJR, gRI, gRJ, glI, glJ, glR, uI, a7], by simp [gII, gIJ, gIR, gJI, gJJ, gJR, gRI, gRJ, glI, glJ, glR, uI, a8], by simp [gII, gIJ, gIR, gJI, gJJ, gJR, gRI, gRJ, glI, glJ, glR, uI, a9], by simp [gII, a10], by simp [gII, a11], by simp only [gII, Nat.reduceEqDiff, if_false]; exact a12, fun i => ?_, fun b hb => (a14 b hb).same (fun k hk => by simp [gII]) (fun k hk => by simp [gII, gJI]) (by simp [gII]), by simp only [gII, Nat.reduceEqDiff, if_false]; exact a15, by simp only [gII, Nat.reduceEqDiff, if_false]; exact a16⟩
    simp only [gII, Nat.reduceEqDiff, if_false, if_true, uI]
    split
    · exact g2
    · exact a13 i
  · repeat first | apply Off.F _ (by decide) | apply Off.I _ (by decide) | apply Off.J _ (by decide)
    exact Off.rr _ _ _
/-- close -/
theorem s_close (h : RelL M) (v1 : Int32) : ∃ v M1 M2, dp_den true xs xl (d + 3) 339 [.ref 0, .int v1] M = iR v M1 ∧ dp_den true xs xl (d + 3) 555 [.ref 114, .int v1] M1 = iR v M2 ∧ RelL M2 ∧ Off RelL_S (0 :: RelL_T) M M2 ∧ Cst 0 0 M M2 := by
  have h0 := h
  obtain ⟨B, E, hB8, hE4, a1, a2, a3, a4, a5, a6, a7, a8, a9, a10, a11, a12, a13, a14, a15, a16⟩ := h
  rw [D_X11_close_0_den, D_X11_close_0_eq]
  simp only [D_X12_close_0_den, D_X12_close_0_eq, lc_day, lm_day, rb_bi, ibz, dp_w]
  by_cases g : qin v1 100001 ∧ dp_I M 97 2 < v1
  case neg =>
    refine ⟨0, M, dp_setI M 114 0 0, ?_, ?_, RelL_off h0 ((Off.rr [] [0] M).F 0 (by decide) 0) (by decide) (by decide), (Off.rr _ _ M).F 0 (by decide) 0, ⟨Nat.le_refl _, Nat.le_refl _⟩⟩
    · repeat' split
      all_goals first | rfl | (exfalso; exact g ⟨by assumption, by assumption⟩)
    · have e : dp_I (dp_setI M 114 0 0) 114 143 = dp_I M 97 2 := by simp [gII, gIJ, gIR, gJI, gJJ, gJR, gRI, gRJ, glI, glJ, glR, uI, a5]
      rw [e]
      repeat' split
      all_goals first | rfl | (exfalso; exact g ⟨by assumption, by assumption⟩)
  obtain ⟨g1, g2⟩ := g
  have e : dp_I (dp_setI (dp_setI M 97 2 v1) 114 0 0) 114 143 = dp_I M 97 2 := by simp [gII, gIJ, gIR, gJI, gJJ, gJR, gRI, gRJ, glI, glJ, glR, uI, a5]
  refine ⟨1, dp_setI M 97 2 v1, dp_setI (dp_setI (dp_setI M 97 2 v1) 114 0 0) 114 143 v1, ?_, ?_, ?_, ?_, ⟨Nat.le_refl _, Nat.le_refl _⟩⟩
  · rw [if_pos g1, if_pos g2]
  · rw [if_pos g1, if_pos (by rw [e]; exact g2)]
  · refine ⟨B, E, hB8, hE4, by simp [gII, gIJ, gIR, gJI, gJJ, gJR, gRI, gRJ, glI, glJ, glR, uI, a1], by simp [gII, gIJ, gIR, gJI, gJJ, gJR, gRI, gRJ, glI, glJ, glR, uI, a2], by simp [gII, gIJ, gIR, gJI, gJJ, gJR, gRI, gRJ, glI, glJ, glR, uI, a3], by simp [gII, gIJ, gIR, gJI, gJJ, gJR, gRI, gRJ, glI, glJ, glR, uI, a4], by simp [gII, gIJ, gIR, gJI, gJJ, gJR, gRI, gRJ, glI, glJ, glR, uI, a5], by simp [gII, gIJ, gIR, gJI, gJJ, gJR, gRI, gRJ, glI, glJ, glR, uI, a6], by simp [gII, gIJ, gIR, gJI, gJJ, gJR, gRI, gRJ, glI, glJ, glR, uI, a7], by simp [gII, gIJ, gIR, gJI, gJJ, gJR, gRI, gRJ, glI, glJ, glR, uI, a8], by simp [gII, gIJ, gIR, gJI, gJJ, gJR, gRI, gRJ, glI, glJ, glR, uI, a9], by simp [gII, a10], by simp [gII, a11], by simp only [gII, Nat.reduceEqDiff, if_false]; exact a12, by simp only [gII, Nat.reduceEqDiff, if_false]; exact a13, fun b hb => (a14 b hb).same (fun k hk => by simp [gII]) (fun k hk => by simp [gII, gJI]) (by simp [gII]), by simp only [gII, Nat.reduceEqDiff, if_false]; exact a15, by simp only [gII, Nat.reduceEqDiff, if_false]; exact a16⟩
  · repeat first | apply Off.F _ (by decide) | apply Off.I _ (by decide) | apply Off.J _ (by decide)
    exact Off.rr _ _ _
/-- a batch of both -/
theorem RelL.bt (h : RelL M) : ∃ B, B ≤ 800 ∧ dp_I M 97 0 = nI B ∧ dp_I M 114 141 = nI B ∧ ∀ b, b < B → LBt M b := by
  obtain ⟨B, E, hB8, hE4, a1, a2, a3, a4, a5, a6, a7, a8, a9, a10, a11, a12, a13, a14, a15, a16⟩ := h
  exact ⟨B, hB8, a1, a2, a14⟩
/-- the batch changes in its row alone -/
theorem RelL.row {M M' : dp_M} {b0 : Nat} (h : RelL M) (hb : dp_I M 221 b0 = 0) (o : Off [100, 101, 102, 221, 222, 223, 224, 225, 226, 227, 228, 229] [0] M M')
    (t : ∀ b k, b ≠ b0 → k < 7 → dp_I M' 100 (b * 7 + k) = dp_I M 100 (b * 7 + k))
    (e : ∀ b k, b ≠ b0 → k < 20 → dp_I M' 101 (b * 20 + k) = dp_I M 101 (b * 20 + k) ∧ dp_I M' 102 (b * 20 + k) = dp_I M 102 (b * 20 + k) ∧ dp_I M' 228 (b * 20 + k) = dp_I M 228 (b * 20 + k) ∧ dp_J M' 229 (b * 20 + k) = dp_J M 229 (b * 20 + k))
    (c : ∀ b, b ≠ b0 → dp_I M' 221 b = dp_I M 221 b ∧ dp_I M' 222 b = dp_I M 222 b ∧ dp_I M' 223 b = dp_I M 223 b ∧ dp_I M' 224 b = dp_I M 224 b ∧ dp_I M' 225 b = dp_I M 225 b ∧ dp_I M' 226 b = dp_I M 226 b ∧ dp_I M' 227 b = dp_I M 227 b)
    (hB : ∀ B, dp_I M 114 141 = nI B → B ≤ 800 → b0 < B) (hL : LBt M' b0) : RelL M' := by
  obtain ⟨B, E, hB8, hE4, a1, a2, a3, a4, a5, a6, a7, a8, a9, a10, a11, a12, a13, a14, a15, a16⟩ := h
  have hbB := hB B a2 hB8
  have f : ∀ i, i ≠ 0 → dp_I M' 114 i = dp_I M 114 i := fun i hi => (o.2.1 i (by simp [hi])).1
  have g : ∀ k, k < 246 → k ∉ [100, 101, 102, 221, 222, 223, 224, 225, 226, 227, 228, 229] → k ≠ 114 → dp_I M' k = dp_I M k := fun k h1 h2 h3 => (o.1 k h1 h2 h3).1
  have e97 := g 97 (by omega) (by decide) (by omega)
  have e98 := g 98 (by omega) (by decide) (by omega)
  have e99 := g 99 (by omega) (by decide) (by omega)
  have e103 := g 103 (by omega) (by decide) (by omega)
  have e104 := g 104 (by omega) (by decide) (by omega)
  have e230 := g 230 (by omega) (by decide) (by omega)
  have e231 := g 231 (by omega) (by decide) (by omega)
  have e232 := g 232 (by omega) (by decide) (by omega)
  refine ⟨B, E, hB8, hE4, by rw [e97, a1], by rw [f _ (by omega), a2], by rw [e97, a3], by rw [f _ (by omega), a4], by rw [e97, f _ (by omega), a5], by rw [e97, f _ (by omega), a6], by rw [e97, f _ (by omega), a7], by rw [e97, f _ (by omega), a8], by rw [e97, f _ (by omega), a9], by rw [e231, e98, a10], by rw [e232, e99, a11], by rw [e98]; exact a12, by rw [e99]; exact a13, fun b hb => ?_, fun b k h1 h2 h3 => ?_, fun i hi => ?_⟩
  · by_cases q : b = b0
    · rw [q]; exact hL
    · exact (a14 b hb).same (fun k hk => t b k q hk) (fun k hk => e b k q hk) (c b q)
  · rw [t b k (by omega) h3]; exact a15 b k h1 h2 h3
  · obtain ⟨b, k, n, q1, q2, q3, q4⟩ := a16 i hi
    have q : b ≠ b0 := fun q => by rw [q, hb] at q2; cases q2
    refine ⟨b, k, n, q1, by rw [(c b q).1]; exact q2, by rw [(c b q).2.2.2.2.2.2]; exact q3, ?_⟩
    rw [e103, e104, e230]; exact q4
/-- failing -/
theorem s_failing (h : RelL M) (v1 v2 : Int32) (hv : v2 = 0 ∨ v2 = 1) : ∃ v M1 M2, dp_den true xs xl (d + 5) 336 [.ref 0, .int v1, .int v2] M = iR v M1 ∧ dp_den true xs xl (d + 5) 548 [.ref 114, .int v1, .int v2] M1 = iR v M2 ∧ RelL M2 ∧ Off RelL_S (0 :: RelL_T) M M2 ∧ Cst 0 0 M M2 := by
  obtain ⟨B, hB8, a1, a2, a3⟩ := h.bt
  by_cases g : qin v1 B ∧ dp_I M 100 (v1.toNatClampNeg * 7 + 0) = 0
  case neg =>
    have g' : ¬ (qin v1 B ∧ dp_I (dp_setI M 114 0 0) 221 v1.toNatClampNeg = 0) := fun q => by
      obtain ⟨j, hj, rfl⟩ := qin_of q.1 (by omega)
      apply g
      refine ⟨q.1, ?_⟩
      obtain ⟨n, c1, c2, c3, -⟩ := a3 j hj
      rw [nI_cl (by omega)]
      rw [c3]
      have := q.2
      rw [nI_cl (by omega)] at this
      simpa [gII] using this
    refine ⟨0, M, dp_setI M 114 0 0, ?_, ?_, RelL_off h ((Off.rr [] [0] M).F 0 (by decide) 0) (by decide) (by decide), (Off.rr _ _ M).F 0 (by decide) 0, ⟨Nat.le_refl _, Nat.le_refl _⟩⟩
    · rw [D_X11_failing_0_den, D_X11_failing_0_eq, lc_open a1 hB8, rb_bi, ibz, if_neg g]
    · rw [D_X12_failing_0_den, D_X12_failing_0_eq]
      simp only [dp_w]
      rw [lm_open (B := B) (by simp [gII, gIJ, gIR, gJI, gJJ, gJR, gRI, gRJ, glI, glJ, glR, uI, a2]) hB8, rb_bi, ibz, if_neg g']
  obtain ⟨j, hj, rfl⟩ := qin_of g.1 (by omega)
  have g2 := g.2
  rw [nI_cl (by omega)] at g2
  obtain ⟨n, c1, c2, c3, c4, c5, c6, c7, c8, c9, c10, c11, c12, c13, c14, c15, c16⟩ := a3 j hj
  have hst : dp_I M 221 j = 0 := by rw [← c3]; exact g2
  refine ⟨1, dp_setI M 100 (j * 7 + 4) v2, dp_setI (dp_setI (dp_setI M 100 (j * 7 + 4) v2) 114 0 0) 226 j v2, ?_, ?_, ?_, ?_, ⟨Nat.le_refl _, Nat.le_refl _⟩⟩
  · rw [D_X11_failing_0_den, D_X11_failing_0_eq, lc_open a1 hB8, rb_bi, ibz, if_pos g, D_X3_setFailing_0_den, D_X3_setFailing_0_eq]
    rcases hv with rfl | rfl
    · rw [if_pos rfl, lc_set rfl (v2 := 4) (k := 4) rfl (by omega) (by omega)]; rfl
    · rw [if_neg (by decide), lc_set rfl (v2 := 4) (k := 4) rfl (by omega) (by omega)]; rfl
  · rw [D_X12_failing_0_den, D_X12_failing_0_eq]
    simp only [dp_w]
    rw [lm_open (B := B) (by simp [gII, gIJ, gIR, gJI, gJJ, gJR, gRI, gRJ, glI, glJ, glR, uI, a2]) hB8, rb_bi, ibz, if_pos ⟨g.1, by rw [nI_cl (by omega)]; simp [gII, hst]⟩, if_neg (nI_inn (by omega) (by omega)), nI_cl (by omega)]
    rcases hv with rfl | rfl <;> rfl
  · refine h.row hst (b0 := j) ?_ (fun b k q hk => ?_) (fun b k q hk => ?_) (fun b q => ?_) (fun B' q1 q2 => ?_) ?_
    · repeat first | apply Off.F _ (by decide) | apply Off.I _ (by decide) | apply Off.J _ (by decide)
      exact Off.rr _ _ _
    · simp only [gII, Nat.reduceEqDiff, if_true, if_false]
      rw [u2 hk (by omega), if_neg (fun z => q z.1)]
    · simp [gII, gJI]
    · simp [gII, gIJ, gIR, gJI, gJJ, gJR, gRI, gRJ, glI, glJ, glR, uI, q]
    · rw [a2, nI_eq (by omega) (by omega)] at q1; omega
    · refine ⟨n, c1, by simp [gII, c2], ?_, by simp [gII, c4], ?_, ?_, ?_, ?_, ?_, ?_, ?_, by simpa [gII, uI] using hv, by simpa [gII] using c13, by simpa [gII] using c14, ?_, ?_⟩
      · simp only [gII, Nat.reduceEqDiff, if_true, if_false]; rw [u2 (by omega) (by omega), if_neg (by omega)]; exact c3
      · simp only [gII, Nat.reduceEqDiff, if_true, if_false]; rw [u2 (by omega) (by omega), if_neg (by omega)]; exact c5
      · simp only [gII, Nat.reduceEqDiff, if_true, if_false]; rw [u2 (by omega) (by omega), if_neg (by omega)]; exact c6
      · simp only [gII, Nat.reduceEqDiff, if_true, if_false]; rw [u2 (by omega) (by omega), if_neg (by omega)]; exact c7
      · simp only [gII, Nat.reduceEqDiff, if_true, if_false]; rw [u2 (by omega) (by omega), if_neg (by omega)]; exact c8
      · simp only [gII, Nat.reduceEqDiff, if_true, if_false]; rw [uI_s, uI_s]
      · simp only [gII, Nat.reduceEqDiff, if_true, if_false]; rw [u2 (by omega) (by omega), if_neg (by omega)]; exact c10
      · simp only [gII, Nat.reduceEqDiff, if_true, if_false]; rw [u2 (by omega) (by omega), if_neg (by omega)]; exact c11
      · simpa [gII, gJI] using c15
      · simpa [gII, gJI] using c16
  · repeat first | apply Off.F _ (by decide) | apply Off.I _ (by decide) | apply Off.J _ (by decide)
    exact Off.rr _ _ _
end LES2
