/-! THE LEDGER: entry, batchOf, read -/
section LEE
variable {xs : Nat → Int32} {xl d : Nat} {M : dp_M}
theorem q_narrow {x : Int64} (h1 : -2147483648 ≤ x.toInt) (h2 : x.toInt ≤ 2147483647) : x.toInt32.toInt = x.toInt ∧ x.toInt32.toInt64 = x := by
  have h : x.toInt32.toInt = x.toInt := by
    rw [Int64.toInt_toInt32]
    apply Int.bmod_eq_of_le <;> omega
  refine ⟨h, ?_⟩
  rw [← Int64.toInt_inj, Int32.toInt_toInt64, h]
/-- entry -/
theorem s_entry (h : RelL M) (v1 v2 : Int32) (v3 : Int64) : ∃ v M1 M2, dp_den true xs xl (d + 5) 335 [.ref 0, .int v1, .int v2, .long v3] M = iR v M1 ∧ dp_den true xs xl (d + 5) 547 [.ref 114, .int v1, .int v2, .long v3] M1 = iR v M2 ∧ RelL M2 ∧ Off RelL_S (0 :: RelL_T) M M2 ∧ Cst 0 0 M M2 := by
  obtain ⟨B, hB8, a1, a2, a3⟩ := h.bt
  rw [D_X11_entry_0_den, D_X11_entry_0_eq]
  simp only [D_X12_entry_0_den, D_X12_entry_0_eq, lc_open a1 hB8, lc_acc, q_win, rb_bi, ibz, dp_w]
  have hno : RelL (dp_setI M 114 0 0) ∧ Off RelL_S (0 :: RelL_T) M (dp_setI M 114 0 0) ∧ Cst 0 0 M (dp_setI M 114 0 0) := ⟨RelL_off h ((Off.rr [] [0] M).F 0 (by decide) 0) (by decide) (by decide), (Off.rr _ _ M).F 0 (by decide) 0, ⟨Nat.le_refl _, Nat.le_refl _⟩⟩
  have b2 : dp_I (dp_setI M 114 0 0) 114 141 = nI B := by simp [gII, gIJ, gIR, gJI, gJJ, gJR, gRI, gRJ, glI, glJ, glR, uI, a2]
  by_cases g : qin v1 B ∧ dp_I M 100 (v1.toNatClampNeg * 7 + 0) = 0
  case neg =>
    have g' : ¬ (qin v1 B ∧ dp_I (dp_setI M 114 0 0) 221 v1.toNatClampNeg = 0) := fun q => by
      obtain ⟨j, hj, rfl⟩ := qin_of q.1 (by omega)
      apply g
      refine ⟨q.1, ?_⟩
      obtain ⟨n, c1, c2, c3, -⟩ := a3 j hj
      rw [nI_cl (by omega)]
      rw [c3]
      have := q.2
      rw [nI_cl (by omega)] at this
      simpa [gII] using this
    refine ⟨0, M, dp_setI M 114 0 0, by rw [if_neg g], ?_, hno⟩
    rw [lm_open b2 hB8, rb_bi, ibz, if_neg g']
  obtain ⟨j, hj, rfl⟩ := qin_of g.1 (by omega)
  have g2 := g.2
  rw [nI_cl (by omega)] at g2
  obtain ⟨n, c1, c2, c3, c4, c5, c6, c7, c8, c9, c10, c11, c12, c13, c14, c15, c16⟩ := a3 j hj
  have hst : dp_I M 221 j = 0 := by rw [← c3]; exact g2
  have hn : dp_I M 100 (j * 7 + 1) = nI n := c5 (by rw [hst]; decide)
  have o1 : ∀ N, dp_I N 114 141 = nI B → dp_I N 221 j = 0 → dp_den true xs xl (d + 4) 543 [.ref 114, .int (nI j)] N = iR 1 N := fun N q1 q2 => by
    rw [lm_open q1 hB8, bI, if_pos ⟨g.1, by rw [nI_cl (by omega)]; exact q2⟩]
  rw [if_pos g]
  have s0 : dp_I (dp_setI M 114 0 0) 221 j = 0 := by simp [gII, hst]
  by_cases k2 : qin v2 12
  case neg =>
    refine ⟨0, M, dp_setI M 114 0 0, by rw [if_neg k2], ?_, hno⟩
    rw [o1 _ b2 s0, rb_bi, if_neg (by decide), lm_acc, rb_bi, ibz, if_neg k2]
  rw [if_pos k2]
  by_cases k3 : (-1000000000 : Int64) ≤ v3 ∧ v3 ≤ 1000000000
  case neg =>
    refine ⟨0, M, dp_setI M 114 0 0, by rw [if_neg k3], ?_, hno⟩
    rw [o1 _ b2 s0, rb_bi, if_neg (by decide), lm_acc, rb_bi, ibz, if_pos k2, q_min, rb_bi, ibz, if_neg k3]
    simp
  rw [if_pos k3]
  simp only [lg_cmp_eq]
  by_cases k4 : v3 = 0
  · refine ⟨0, M, dp_setI M 114 0 0, by rw [if_pos k4], ?_, hno⟩
    rw [o1 _ b2 s0, rb_bi, if_neg (by decide), lm_acc, rb_bi, ibz, if_pos k2, if_pos k4]
  rw [if_neg k4]
  by_cases k5 : n < 20
  case neg =>
    refine ⟨0, M, dp_setI M 114 0 0, ?_, ?_, hno⟩
    · rw [lc_addN rfl (by omega) hn (by omega) c1, rb_bi, if_pos rfl]
    · rw [o1 _ b2 s0, rb_bi, if_neg (by decide), lm_acc, rb_bi, ibz, if_pos k2, if_neg k4, q_min, rb_bi, ibz, if_pos k3, if_neg (nI_inn (by omega) (by omega)), nI_cl (by omega), if_pos (by simp [gII, c2]; rw [show n = 20 by omega]; rfl)]
  have hr : -1000000000 ≤ v3.toInt ∧ v3.toInt ≤ 1000000000 := by
    have := k3
    rw [Int64.le_iff_toInt_le, Int64.le_iff_toInt_le] at this
    exact this
  obtain ⟨n1, n2⟩ := q_narrow (x := v3) (by omega) (by omega)
  refine ⟨1, _, dp_setI (dp_setJ (dp_setI (dp_setI (dp_setI (dp_setI (dp_setI M 101 (j * 20 + n) v2) 102 (j * 20 + n) v3.toInt32) 100 (j * 7 + 1) (nI (n + 1))) 114 0 0) 228 (j * 20 + n) v2) 229 (j * 20 + n) v3) 227 j (nI (n + 1)), by rw [lc_add rfl (by omega) hn k5, rb_bi, if_neg (by decide)], ?_, ?_⟩
  · rw [o1 _ (by simp [gII, gIJ, gIR, gJI, gJJ, gJR, gRI, gRJ, glI, glJ, glR, uI, a2]) (by simp [gII, hst]), rb_bi, if_neg (by decide), lm_acc, rb_bi, ibz, if_pos k2, if_neg k4, q_min, rb_bi, ibz, if_pos k3, if_neg (nI_inn (by omega) (by omega)), nI_cl (by omega), if_neg (by simp only [gII, Nat.reduceEqDiff, if_false]; rw [c2]; exact (show ¬ nI (n) = (20 : Int32) from fun e => absurd ((nI_eq (a := n) (b := 20) (by omega) (by omega)).mp e) (by omega))), lm_enters rfl (by omega) (n := n) (by simp [gII, c2]) k5 k4, rb_bv]
  refine ⟨?_, ?_, ⟨Nat.le_refl _, Nat.le_refl _⟩⟩
  · refine h.row hst (b0 := j) ?_ (fun b k q hk => ?_) (fun b k q hk => ?_) (fun b q => ?_) (fun B' q1 q2 => ?_) ?_
    · repeat first | apply Off.F _ (by decide) | apply Off.I _ (by decide) | apply Off.J _ (by decide)
      exact Off.rr _ _ _
    · simp only [gII, gIJ, Nat.reduceEqDiff, if_true, if_false]
      rw [u2 hk (by omega), if_neg (fun z => q z.1)]
    · simp only [gII, gIJ, gJI, gJJ, Nat.reduceEqDiff, if_true, if_false]
      rw [u2 hk k5, if_neg (fun z => q z.1), u2 hk k5, if_neg (fun z => q z.1), u2 hk k5, if_neg (fun z => q z.1), u2 hk k5, if_neg (fun z => q z.1)]
      exact ⟨rfl, rfl, rfl, rfl⟩
    · simp [gII, gIJ, gIR, gJI, gJJ, gJR, gRI, gRJ, glI, glJ, glR, uI, q]
    · rw [a2, nI_eq (by omega) (by omega)] at q1; omega
    · refine ⟨n + 1, by omega, by simp [gII, gIJ, gIR, gJI, gJJ, gJR, gRI, gRJ, glI, glJ, glR, uI], ?_, by simp [gII, gIJ, gIR, gJI, gJJ, gJR, gRI, gRJ, glI, glJ, glR, uI, c4], ?_, ?_, ?_, ?_, ?_, ?_, ?_, by simpa [gII, gIJ, gIR, gJI, gJJ, gJR, gRI, gRJ, glI, glJ, glR, uI] using c12, by simpa [gII, gIJ] using c13, by simpa [gII, gIJ] using c14, fun k hk => ?_, ?_⟩
      · simp only [gII, gIJ, Nat.reduceEqDiff, if_true, if_false]; rw [u2 (by omega) (by omega), if_neg (by omega)]; exact c3
      · intro _; simp only [gII, gIJ, Nat.reduceEqDiff, if_true, if_false]; rw [uI_s]
      · intro q; simp [gII, gIJ, hst] at q
      · simp only [gII, gIJ, Nat.reduceEqDiff, if_true, if_false]; rw [u2 (by omega) (by omega), if_neg (by omega)]; exact c7
      · simp only [gII, gIJ, Nat.reduceEqDiff, if_true, if_false]; rw [u2 (by omega) (by omega), if_neg (by omega)]; exact c8
      · simp only [gII, gIJ, Nat.reduceEqDiff, if_true, if_false]; rw [u2 (by omega) (by omega), if_neg (by omega)]; exact c9
      · simp only [gII, gIJ, Nat.reduceEqDiff, if_true, if_false]; rw [u2 (by omega) (by omega), if_neg (by omega)]; exact c10
      · simp only [gII, gIJ, Nat.reduceEqDiff, if_true, if_false]; rw [u2 (by omega) (by omega), if_neg (by omega)]; exact c11
      · simp only [gII, gIJ, gJI, gJJ, Nat.reduceEqDiff, if_true, if_false]
        by_cases e : k = n
        · subst e
          rw [uI_s, uI_s, uI_s, uI_s]
          refine ⟨rfl, k2, n2, by omega, by omega, fun q => k4 ?_⟩
          rw [← n2, q]; rfl
        · rw [uI_n (by omega), uI_n (by omega), uI_n (by omega), uI_n (by omega)]
          exact c15 k (by omega)
      · intro q; simp [gII, gIJ, hst] at q
  · repeat first | apply Off.F _ (by decide) | apply Off.I _ (by decide) | apply Off.J _ (by decide)
    exact Off.rr _ _ _
end LEE
