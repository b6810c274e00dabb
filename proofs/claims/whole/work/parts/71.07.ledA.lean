/-! THE LEDGER: account, statement, read, batchOf -/
section LEA
variable {xs : Nat → Int32} {xl d : Nat} {M : dp_M}
/-- what is refused: the class throws, the model notes why -/
theorem RelL.refused (h : RelL M) (hn : 246 ≤ dp_n M) (k : Int32) : RelL (dp_setI (dp_new M 0 0 6) 114 0 k) ∧ Off (245 :: RelL_S) (0 :: RelL_T) M (dp_setI (dp_new M 0 0 6) 114 0 k) ∧ Cst 1 6 M (dp_setI (dp_new M 0 0 6) 114 0 k) :=
  ⟨RelL_off h (((Off.rr [] [0] M).N hn 0 0 6).F 0 (by decide) k) (by decide) (by decide), ((Off.rr _ _ M).N hn 0 0 6).F 0 (by decide) k, ⟨Nat.le_refl _, Nat.le_refl _⟩⟩
/-- what is only read -/
theorem RelL.looked (h : RelL M) (v : Int64) : RelL (dp_setI (dp_setJ M 245 0 v) 114 0 0) ∧ Off (245 :: RelL_S) (0 :: RelL_T) M (dp_setI (dp_setJ M 245 0 v) 114 0 0) ∧ Cst 1 6 M (dp_setI (dp_setJ M 245 0 v) 114 0 0) :=
  ⟨RelL_off h (((Off.rr [245] [0] M).J 245 (by decide) 0 v).F 0 (by decide) 0) (by decide) (by decide), ((Off.rr _ _ M).J 245 (by decide) 0 v).F 0 (by decide) 0, ⟨Nat.le_add_right _ _, Nat.le_add_right _ _⟩⟩
theorem sumF_c {M M' : dp_M} {v1 v2 v3 v4 : Int32} (h1 : dp_I M' 222 = dp_I M 222) (h2 : dp_I M' 223 = dp_I M 223) (h3 : dp_I M' 230 = dp_I M 230) (h4 : dp_I M' 228 = dp_I M 228) (h5 : dp_J M' 229 = dp_J M 229) : sumF M' v1 v2 v3 v4 = sumF M v1 v2 v3 v4 := by
  funext i; unfold sumF; rw [h1, h2, h3, h4, h5]
theorem LEn_c {M M' : dp_M} {S T : List Nat} {i : Nat} (h : LEn M i) (o : Off S T M M') (hS : ∀ k ∈ RelL_S, k ∉ S) : LEn M' i := by
  have e : ∀ k ∈ RelL_S, dp_I M' k = dp_I M k ∧ dp_J M' k = dp_J M k := fun k hk => by
    have := o.1 k (by simp only [RelL_S, List.mem_cons, List.not_mem_nil, or_false] at hk; omega) (hS k hk) (by simp only [RelL_S, List.mem_cons, List.not_mem_nil, or_false] at hk; omega)
    exact ⟨this.1, this.2.1⟩
  unfold LEn at h ⊢
  rw [(e 100 (by decide)).1, (e 101 (by decide)).1, (e 102 (by decide)).1, (e 103 (by decide)).1, (e 104 (by decide)).1, (e 222 (by decide)).1, (e 223 (by decide)).1, (e 228 (by decide)).1, (e 229 (by decide)).2, (e 230 (by decide)).1]
  exact h
/-- account -/
theorem s_account (h : RelL M) (hn : 246 ≤ dp_n M) (v1 v2 v3 : Int32) : ∃ k b M1 M2, dp_den true xs xl (d + 5) 640 [.ref 0, .int v1, .int v2, .int v3, .ref 245] M = iR k M1 ∧ dp_den true xs xl (d + 5) 557 [.ref 114, .int v1, .int v2, .int v3] M1 = lR b M2 ∧
    dp_I M2 114 0 = k ∧ (k = 0 → dp_J M2 245 0 = b) ∧ RelL M2 ∧ Off (245 :: RelL_S) (0 :: RelL_T) M M2 ∧ Cst 1 6 M M2 := by
  obtain ⟨E, hE4, e1, e2, e3⟩ := h.ent
  by_cases g : qin v1 12 ∧ qin v2 100001 ∧ qin v3 100001
  case neg =>
    refine ⟨1, 0, dp_new M 0 0 6, _, wL_account_x0 ?_, ?_, rfl, (fun e => by cases e), h.refused hn 1⟩
    · rw [D_X11_account_0_den, D_X11_account_0_eq]
      simp only [lc_acc, lc_day, rb_bi, ibz, q_nk hn]
      repeat' split
      all_goals first | rfl | (exfalso; exact g ⟨by assumption, by assumption, by assumption⟩)
    · rw [D_X12_account_0_den, D_X12_account_0_eq]
      have e : ∀ N, D_X12_account_26 xs xl (d + 4) v1 v2 v3 N = lR 0 (dp_setI N 114 0 1) := fun N => by
        rw [D_X12_account_26_eq]
        simp only [dp_w, gII, if_true, uI_s]
        rw [if_neg (by decide)]
      simp only [lm_acc, lm_day, rb_bi, ibz, e]
      repeat' split
      all_goals first | rfl | (exfalso; exact g ⟨by assumption, by assumption, by assumption⟩)
  obtain ⟨g1, g2, g3⟩ := g
  refine ⟨0, sl (sumF M v1 0 v2 v3) E, _, _, wL_account_ok (x := sl (sumF M v1 0 v2 v3) E) (M1 := M) ?_, ?_, ?_, fun _ => ?_, h.looked (sl (sumF M v1 0 v2 v3) E)⟩
  · rw [D_X11_account_0_den, D_X11_account_0_eq]
    simp only [lc_acc, lc_day, rb_bi, ibz, if_pos g1, if_pos g2, if_pos g3, lc_sum hE4 e1 e3, rb_bl]
  · rw [D_X12_account_0_den, D_X12_account_0_eq]
    simp only [lm_acc, lm_day, rb_bi, ibz, if_pos g1, if_pos g2, if_pos g3, dp_w]
    rw [if_pos (by simp only [gII, if_true, uI_s]; decide), lm_sum hE4 (by simp [gII, gIJ, gIR, gJI, gJJ, gJR, gRI, gRJ, glI, glJ, glR, uI, e2]) (fun i hi => LEn_c (e3 i hi) (((Off.rr [245] [0] M).J 245 (by decide) 0 _).F 0 (by decide) 0) (by decide)), rb_bl, sumF_c (M := M)]
    all_goals simp [gII, gIJ, gJI, gJJ]
  · simp [gII, uI]
  · simp [gJI, gJJ, uI]
/-- statement -/
theorem s_statement (h : RelL M) (hn : 246 ≤ dp_n M) (v1 v2 v3 : Int32) : ∃ k b M1 M2, dp_den true xs xl (d + 5) 641 [.ref 0, .int v1, .int v2, .int v3, .ref 245] M = iR k M1 ∧ dp_den true xs xl (d + 5) 558 [.ref 114, .int v1, .int v2, .int v3] M1 = lR b M2 ∧
    dp_I M2 114 0 = k ∧ (k = 0 → dp_J M2 245 0 = b) ∧ RelL M2 ∧ Off (245 :: RelL_S) (0 :: RelL_T) M M2 ∧ Cst 1 6 M M2 := by
  obtain ⟨E, hE4, e1, e2, e3⟩ := h.ent
  have f1 : ∀ N, D_X12_statement_32 xs xl (d + 4) v1 v2 v3 1 N = lR 0 (dp_setI N 114 0 1) := fun N => by
    rw [D_X12_statement_32_eq]
    simp only [dp_w, gII, if_true, uI_s]
    rw [if_neg (by decide)]
  by_cases g : qin v1 12 ∧ qin v2 3334 ∧ qin v3 100001
  case neg =>
    refine ⟨1, 0, dp_new M 0 0 6, _, wL_statement_x0 ?_, ?_, rfl, (fun e => by cases e), h.refused hn 1⟩
    · rw [D_X11_statement_0_den, D_X11_statement_0_eq]
      simp only [lc_acc, lc_day, q_win, rb_bi, ibz, q_nk hn, w_3333]
      repeat' split
      all_goals first | rfl | (exfalso; exact g ⟨by assumption, by assumption, by assumption⟩)
    · rw [D_X12_statement_0_den, D_X12_statement_0_eq]
      simp only [lm_acc, lm_day, q_min, rb_bi, ibz, f1, w_3333]
      repeat' split
      all_goals first | rfl | (exfalso; exact g ⟨by assumption, by assumption, by assumption⟩)
  obtain ⟨g1, g2, g3⟩ := g
  refine ⟨0, sl (sumF M v1 (30 * v2) (30 * v2 + 29) v3) E, _, _, wL_statement_ok (x := sl (sumF M v1 (30 * v2) (30 * v2 + 29) v3) E) (M1 := M) ?_, ?_, ?_, fun _ => ?_, h.looked (sl (sumF M v1 (30 * v2) (30 * v2 + 29) v3) E)⟩
  · rw [D_X11_statement_0_den, D_X11_statement_0_eq]
    simp only [lc_acc, lc_day, q_win, rb_bi, ibz, w_3333, if_pos g1, if_pos g2, if_pos g3, lc_sum hE4 e1 e3, rb_bl]
  · rw [D_X12_statement_0_den, D_X12_statement_0_eq]
    simp only [lm_acc, lm_day, q_min, rb_bi, ibz, w_3333, if_pos g1, if_pos g2, if_pos g3]
    rw [D_X12_statement_32_eq]
    simp only [dp_w]
    rw [if_pos (by simp only [gII, if_true, uI_s]; decide), lm_sum hE4 (by simp [gII, gIJ, gIR, gJI, gJJ, gJR, gRI, gRJ, glI, glJ, glR, uI, e2]) (fun i hi => LEn_c (e3 i hi) (((Off.rr [245] [0] M).J 245 (by decide) 0 _).F 0 (by decide) 0) (by decide)), rb_bl, sumF_c (M := M)]
    all_goals simp [gII, gIJ, gJI, gJJ]
  · simp [gII, uI]
  · simp [gJI, gJJ, uI]
/-- batchOf -/
theorem s_batchOf (h : RelL M) (hn : 246 ≤ dp_n M) (v1 v2 : Int32) : ∃ k b M1 M2, dp_den true xs xl (d + 5) 644 [.ref 0, .int v1, .int v2, .ref 245] M = iR k M1 ∧ dp_den true xs xl (d + 5) 565 [.ref 114, .int v1, .int v2] M1 = iR b M2 ∧
    dp_I M2 114 0 = k ∧ (k = 0 → dp_J M2 245 0 = b.toInt64) ∧ RelL M2 ∧ Off (245 :: RelL_S) (0 :: RelL_T) M M2 ∧ Cst 1 6 M M2 := by
  obtain ⟨B, hB8, a1, a2, a3⟩ := h.bt
  by_cases g : qin v1 B ∧ qin v2 7
  case neg =>
    refine ⟨1, 0, dp_new M 0 0 6, _, wL_batchOf_x2 ?_, ?_, rfl, (fun e => by cases e), h.refused hn 1⟩
    · rw [D_X11_batchOf_0_den, D_X11_batchOf_0_eq]
      simp only [lc_isB a1 hB8, q_win, rb_bi, ibz, q_nk hn, w_6]
      repeat' split
      all_goals first | rfl | (exfalso; exact g ⟨by assumption, by assumption⟩)
    · rw [D_X12_batchOf_0_den, D_X12_batchOf_0_eq, show dp_I (dp_new M 0 0 6) 114 141 = nI B by rw [gIN (by omega)]; exact a2]
      simp only [q_ref, q_min, rb_bi, ibz, w_6]
      rcases pk_ix v1 (show B < 2 ^ 31 by omega) with q | q | ⟨j, q, rfl⟩
      · rw [if_pos q]
      · rw [if_neg (q_ge0 q (by omega)), if_pos q]
      · rw [if_neg (nI_pos (by omega)), if_neg (nI_nge q (by omega)), if_neg (fun q2 => g ⟨qin_nI q (by omega), q2⟩)]
  obtain ⟨j, hj, rfl⟩ := qin_of g.1 (by omega)
  obtain ⟨k, hk, rfl⟩ := qin_of g.2 (by omega)
  obtain ⟨n, c1, c2, c3, c4, c5, c6, c7, c8, c9, c10, c11, c12, c13, c14, c15, c16⟩ := a3 j hj
  refine ⟨0, dp_I M 100 (j * 7 + k), _, _, wL_batchOf_ok (x := dp_I M 100 (j * 7 + k)) (M1 := M) ?_, ?_, ?_, fun _ => ?_, h.looked (dp_I M 100 (j * 7 + k)).toInt64⟩
  · rw [D_X11_batchOf_0_den, D_X11_batchOf_0_eq]
    simp only [lc_isB a1 hB8, q_win, rb_bi, ibz, w_6, if_pos g.1, if_pos g.2, lc_fact (M := M) (xs := xs) (xl := xl) (d := d + 2) (v1 := nI j) (v2 := nI k) rfl rfl (show j < 800 by omega) hk]
  · rw [D_X12_batchOf_0_den, D_X12_batchOf_0_eq]
    simp only [gII, gIJ, Nat.reduceEqDiff, if_false, a2, if_neg (nI_pos (show j < 2 ^ 31 by omega)), if_neg (nI_nge hj (show B < 2147483648 by omega)), q_min, rb_bi, ibz, w_6, if_pos g.2, dp_w, nI_cl (show j < 2147483648 by omega), nI_o (show j < 801 by omega) (by omega)]
    have hk' : k = 0 ∨ k = 1 ∨ k = 2 ∨ k = 3 ∨ k = 4 ∨ k = 5 ∨ k = 6 := by omega
    rcases hk' with rfl | rfl | rfl | rfl | rfl | rfl | rfl
    · rw [if_pos (by rfl), c3]
    · rw [if_neg (by decide), if_pos (by rfl)]
      by_cases q : dp_I M 221 j = 2
      · rw [if_pos q, c6 q]
      · rw [if_neg q, c5 q, c2]
    · rw [if_neg (by decide), if_neg (by decide), if_pos (by rfl), c7]
    · rw [if_neg (by decide), if_neg (by decide), if_neg (by decide), if_pos (by rfl), c8]
    · rw [if_neg (by decide), if_neg (by decide), if_neg (by decide), if_neg (by decide), if_pos (by rfl), c9]
      rcases c12 with q | q <;> rw [q] <;> rfl
    · rw [if_neg (by decide), if_neg (by decide), if_neg (by decide), if_neg (by decide), if_neg (by decide), if_pos (by rfl), c10]
    · rw [if_neg (by decide), if_neg (by decide), if_neg (by decide), if_neg (by decide), if_neg (by decide), if_neg (by decide), c11]
  · simp [gII, uI]
  · simp [gJI, gJJ, uI]
end LEA
