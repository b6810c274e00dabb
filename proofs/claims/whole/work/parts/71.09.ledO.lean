/-! THE LEDGER: post, read -/
section LEO
variable {xs : Nat → Int32} {xl d : Nat} {M : dp_M}
/-- what is read: read -/
theorem s_read (h : RelL M) (hn : 246 ≤ dp_n M) (v1 v2 : Int32) : ∃ k b M1 M2, dp_den true xs xl (d + 5) 643 [.ref 0, .int v1, .int v2, .ref 245] M = iR k M1 ∧ dp_den true xs xl (d + 5) 564 [.ref 114, .int v1, .int v2] M1 = lR b M2 ∧
    dp_I M2 114 0 = k ∧ (k = 0 → dp_J M2 245 0 = b) ∧ RelL M2 ∧ Off (245 :: RelL_S) (0 :: RelL_T) M M2 ∧ Cst 1 6 M M2 := by
  obtain ⟨E, hE4, e1, e2, e3⟩ := h.ent
  by_cases g : qin v1 E ∧ qin v2 5
  case neg =>
    refine ⟨1, 0, dp_new M 0 0 6, _, wL_read_x2 ?_, ?_, rfl, (fun e => by cases e), h.refused hn 1⟩
    · rw [D_X11_read_0_den, D_X11_read_0_eq, e1]
      simp only [q_win, rb_bi, ibz, q_nk hn, w_4, q_w (show E < 2147483648 by omega)]
      repeat' split
      all_goals first | rfl | (exfalso; exact g ⟨by assumption, by assumption⟩)
    · rw [D_X12_read_0_den, D_X12_read_0_eq, show dp_I (dp_new M 0 0 6) 114 142 = nI E by rw [gIN (by omega)]; exact e2]
      simp only [q_ref, q_min, rb_bi, ibz, w_4]
      rcases pk_ix v1 (show E < 2 ^ 31 by omega) with q | q | ⟨j, q, rfl⟩
      · rw [if_pos q]; rfl
      · rw [if_neg (q_ge0 q (by omega)), if_pos q]; rfl
      · rw [if_neg (nI_pos (by omega)), if_neg (nI_nge q (by omega)), if_neg (fun q2 => g ⟨qin_nI q (by omega), q2⟩)]; rfl
  obtain ⟨i, hi, rfl⟩ := qin_of g.1 (by omega)
  obtain ⟨k, hk, rfl⟩ := qin_of g.2 (by omega)
  obtain ⟨b, q, h1, h2, h3, h4, h5, h6, h7, h8, h9, -⟩ := e3 i hi
  have hk' : k = 0 ∨ k = 1 ∨ k = 2 ∨ k = 3 ∨ k = 4 := by omega
  have m : ∀ x : Int64, ∀ N, N = dp_setJ M 245 0 x → dp_den true xs xl (d + 5) 564 [.ref 114, .int (nI i), .int (nI k)] N = lR (if k = 0 then (nI b).toInt64 else if k = 1 then (dp_I M 228 (b * 20 + q)).toInt64 else if k = 2 then dp_J M 229 (b * 20 + q) else if k = 3 then (dp_I M 222 b).toInt64 else (dp_I M 223 b).toInt64) (dp_setI N 114 0 0) := by
    intro x N eN
    subst eN
    rw [D_X12_read_0_den, D_X12_read_0_eq]
    simp only [gII, gIJ, gJI, gJJ, Nat.reduceEqDiff, if_false, e2, if_neg (nI_pos (show i < 2 ^ 31 by omega)), if_neg (nI_nge hi (show E < 2147483648 by omega)), q_min, rb_bi, ibz, w_4, if_pos g.2, dp_w, nI_cl (show i < 2147483648 by omega), nI_o (show i < 4000 by omega) (by omega), h3, q_div20 (show b < 801 by omega) h2, nI_cl (show b * 20 + q < 2147483648 by omega), nI_o (show b * 20 + q < 16020 by omega) (by omega), nI_cl (show b < 2147483648 by omega), nI_o (show b < 801 by omega) (by omega)]
    rcases hk' with rfl | rfl | rfl | rfl | rfl
    · rw [if_pos (by rfl)]; rfl
    · rw [if_neg (by decide), if_pos (by rfl)]; rfl
    · rw [if_neg (by decide), if_neg (by decide), if_pos (by rfl)]; rfl
    · rw [if_neg (by decide), if_neg (by decide), if_neg (by decide), if_pos (by rfl)]; rfl
    · rw [if_neg (by decide), if_neg (by decide), if_neg (by decide), if_neg (by decide)]; rfl
  generalize hv : (if k = 0 then (nI b).toInt64 else if k = 1 then (dp_I M 228 (b * 20 + q)).toInt64 else if k = 2 then dp_J M 229 (b * 20 + q) else if k = 3 then (dp_I M 222 b).toInt64 else (dp_I M 223 b).toInt64) = v at m
  refine ⟨0, v, _, _, wL_read_ok (x := v) (M1 := M) ?_, m v _ rfl, ?_, fun _ => ?_, h.looked v⟩
  · rw [D_X11_read_0_den, D_X11_read_0_eq, e1]
    simp only [q_win, rb_bi, ibz, w_4, q_w (show E < 2147483648 by omega), if_pos g.1, if_pos g.2]
    rw [D_X3_factOfEntry_0_den, D_X3_factOfEntry_0_eq]
    simp only [nI_cl (show i < 2147483648 by omega), nI_o (show i < 4000 by omega) (by omega), h4, h5, nI_cl (show b * 20 + q < 2147483648 by omega), nI_o (show b * 20 + q < 16000 by omega) (by omega), if_false]
    rw [← hv]
    rcases hk' with rfl | rfl | rfl | rfl | rfl
    · rw [if_pos (by rfl)]; rfl
    · rw [if_neg (by decide), if_pos (by rfl), h8]; rfl
    · rw [if_neg (by decide), if_neg (by decide), if_pos (by rfl), h9]; rfl
    · rw [if_neg (by decide), if_neg (by decide), if_neg (by decide), if_pos (by rfl), lc_fact rfl (v2 := 5) (k := 5) rfl h1 (by omega), h6]; rfl
    · rw [if_neg (by decide), if_neg (by decide), if_neg (by decide), if_neg (by decide), lc_fact rfl (v2 := 6) (k := 6) rfl h1 (by omega), h7]; rfl
  · simp [gII, uI]
  · simp [gJI, gJJ, uI]
end LEO
