/-! THE LEDGER: class and model side by side -/
/-- one batch -/
def LBt (M : dp_M) (b : Nat) : Prop := ∃ n : Nat, n ≤ 20 ∧ dp_I M 227 b = nI n ∧ dp_I M 100 (b * 7 + 0) = dp_I M 221 b ∧
  (dp_I M 221 b = 0 ∨ dp_I M 221 b = 1 ∨ dp_I M 221 b = 2) ∧
  (dp_I M 221 b ≠ 2 → dp_I M 100 (b * 7 + 1) = nI n) ∧ (dp_I M 221 b = 2 → dp_I M 100 (b * 7 + 1) = 0) ∧
  dp_I M 100 (b * 7 + 2) = dp_I M 224 b ∧ dp_I M 100 (b * 7 + 3) = dp_I M 225 b ∧ dp_I M 100 (b * 7 + 4) = dp_I M 226 b ∧
  dp_I M 100 (b * 7 + 5) = dp_I M 222 b ∧ dp_I M 100 (b * 7 + 6) = dp_I M 223 b ∧
  (dp_I M 226 b = 0 ∨ dp_I M 226 b = 1) ∧ (dp_I M 224 b = -1 ∨ qin (dp_I M 224 b) 800) ∧ (dp_I M 225 b = -1 ∨ qin (dp_I M 225 b) 800) ∧
  (∀ k, k < n → dp_I M 101 (b * 20 + k) = dp_I M 228 (b * 20 + k) ∧ qin (dp_I M 228 (b * 20 + k)) 12 ∧ (dp_I M 102 (b * 20 + k)).toInt64 = dp_J M 229 (b * 20 + k) ∧
    -1000000000 ≤ (dp_I M 102 (b * 20 + k)).toInt ∧ (dp_I M 102 (b * 20 + k)).toInt ≤ 1000000000 ∧ dp_I M 102 (b * 20 + k) ≠ 0) ∧
  (dp_I M 221 b = 1 → 1 ≤ n ∧ sl (fun k => dp_J M 229 (b * 20 + k)) n = 0)
/-- the ledger -/
def RelL (M : dp_M) : Prop := ∃ B E : Nat, B ≤ 800 ∧ E ≤ 4000 ∧ dp_I M 97 0 = nI B ∧ dp_I M 114 141 = nI B ∧ dp_I M 97 1 = nI E ∧ dp_I M 114 142 = nI E ∧
  dp_I M 114 143 = dp_I M 97 2 ∧ dp_I M 114 144 = dp_I M 97 3 ∧ dp_I M 114 145 = dp_I M 97 4 ∧ dp_I M 114 146 = dp_I M 97 5 ∧ dp_I M 114 147 = dp_I M 97 6 ∧
  dp_I M 231 = dp_I M 98 ∧ dp_I M 232 = dp_I M 99 ∧ (∀ i, qin (dp_I M 98 i) 1001) ∧ (∀ i, qin (dp_I M 99 i) 1001) ∧
  (∀ b, b < B → LBt M b) ∧ (∀ b k, B ≤ b → b < 800 → k < 7 → dp_I M 100 (b * 7 + k) = 0) ∧
  (∀ i, i < E → ∃ b k n, b < B ∧ dp_I M 221 b = 1 ∧ dp_I M 227 b = nI n ∧ k < n ∧ n ≤ 20 ∧ dp_I M 230 i = nI (b * 20 + k) ∧ dp_I M 104 i = nI (b * 20 + k) ∧ dp_I M 103 i = nI b)
def RelL_S : List Nat := [97, 98, 99, 100, 101, 102, 103, 104, 221, 222, 223, 224, 225, 226, 227, 228, 229, 230, 231, 232]
def RelL_T : List Nat := [141, 142, 143, 144, 145, 146, 147]
theorem RelL_off {S T : List Nat} {M M' : dp_M} (h : RelL M) (o : Off S T M M') (hS : ∀ k ∈ RelL_S, k ∉ S) (hT : ∀ i ∈ RelL_T, i ∉ T) : RelL M' := by
  have e : ∀ k ∈ RelL_S, dp_I M' k = dp_I M k ∧ dp_J M' k = dp_J M k := fun k hk => by
    have := o.1 k (by simp only [RelL_S, List.mem_cons, List.not_mem_nil, or_false] at hk; omega) (hS k hk) (by simp only [RelL_S, List.mem_cons, List.not_mem_nil, or_false] at hk; omega)
    exact ⟨this.1, this.2.1⟩
  have f : ∀ i ∈ RelL_T, dp_I M' 114 i = dp_I M 114 i := fun i hi => (o.2.1 i (hT i hi)).1
  have e97 := (e 97 (by decide)).1
  have e98 := (e 98 (by decide)).1
  have e99 := (e 99 (by decide)).1
  have e100 := (e 100 (by decide)).1
  have e101 := (e 101 (by decide)).1
  have e102 := (e 102 (by decide)).1
  have e103 := (e 103 (by decide)).1
  have e104 := (e 104 (by decide)).1
  have e221 := (e 221 (by decide)).1
  have e222 := (e 222 (by decide)).1
  have e223 := (e 223 (by decide)).1
  have e224 := (e 224 (by decide)).1
  have e225 := (e 225 (by decide)).1
  have e226 := (e 226 (by decide)).1
  have e227 := (e 227 (by decide)).1
  have e228 := (e 228 (by decide)).1
  have e229 := (e 229 (by decide)).2
  have e230 := (e 230 (by decide)).1
  have e231 := (e 231 (by decide)).1
  have e232 := (e 232 (by decide)).1
  have f141 := f 141 (by decide)
  have f142 := f 142 (by decide)
  have f143 := f 143 (by decide)
  have f144 := f 144 (by decide)
  have f145 := f 145 (by decide)
  have f146 := f 146 (by decide)
  have f147 := f 147 (by decide)
  unfold RelL LBt at h ⊢
  simp only [e97, e98, e99, e100, e101, e102, e103, e104, e221, e222, e223, e224, e225, e226, e227, e228, e229, e230, e231, e232, f141, f142, f143, f144, f145, f146, f147]
  exact h
theorem LBt.same {M M' : dp_M} {b : Nat} (h : LBt M b) (t : ∀ k, k < 7 → dp_I M' 100 (b * 7 + k) = dp_I M 100 (b * 7 + k))
    (e : ∀ k, k < 20 → dp_I M' 101 (b * 20 + k) = dp_I M 101 (b * 20 + k) ∧ dp_I M' 102 (b * 20 + k) = dp_I M 102 (b * 20 + k) ∧ dp_I M' 228 (b * 20 + k) = dp_I M 228 (b * 20 + k) ∧ dp_J M' 229 (b * 20 + k) = dp_J M 229 (b * 20 + k))
    (c : dp_I M' 221 b = dp_I M 221 b ∧ dp_I M' 222 b = dp_I M 222 b ∧ dp_I M' 223 b = dp_I M 223 b ∧ dp_I M' 224 b = dp_I M 224 b ∧ dp_I M' 225 b = dp_I M 225 b ∧ dp_I M' 226 b = dp_I M 226 b ∧ dp_I M' 227 b = dp_I M 227 b) : LBt M' b := by
  obtain ⟨n, h1, h2, h3, h4, h5, h6, h7, h8, h9, h10, h11, h12, h13, h14, h15, h16⟩ := h
  obtain ⟨c1, c2, c3, c4, c5, c6, c7⟩ := c
  refine ⟨n, h1, by rw [c7, h2], by rw [t 0 (by omega), c1, h3], by rw [c1]; exact h4, by rw [c1, t 1 (by omega)]; exact h5, by rw [c1, t 1 (by omega)]; exact h6, by rw [t 2 (by omega), c4, h7], by rw [t 3 (by omega), c5, h8], by rw [t 4 (by omega), c6, h9], by rw [t 5 (by omega), c2, h10], by rw [t 6 (by omega), c3, h11], by rw [c6]; exact h12, by rw [c4]; exact h13, by rw [c5]; exact h14, fun k hk => ?_, fun q => ?_⟩
  · obtain ⟨e1, e2, e3, e4⟩ := e k (by omega)
    rw [e1, e2, e3, e4]; exact h15 k hk
  · rw [c1] at q
    refine ⟨(h16 q).1, ?_⟩
    rw [← (h16 q).2]
    exact sl_c (fun k hk => (e k (by omega)).2.2.2)
section LES
variable {xs : Nat → Int32} {xl d : Nat} {M : dp_M}
theorem lc_day {v : Int32} : dp_den true xs xl (d + 2) 263 [.int v] M = iR (bI (qin v 100001)) M := by
  rw [D_X11_isBookDay_0_den, D_X11_isBookDay_0_eq]; exact q_cr (by decide)
theorem lc_isB {v : Int32} {B : Nat} (hB : dp_I M 97 0 = nI B) (h : B ≤ 800) : dp_den true xs xl (d + 2) 258 [.ref 0, .int v] M = iR (bI (qin v B)) M := by
  rw [D_X11_isBatch_0_den, D_X11_isBatch_0_eq]; exact q_cn hB (by omega)
theorem lc_open {v : Int32} {B : Nat} (hB : dp_I M 97 0 = nI B) (h : B ≤ 800) : dp_den true xs xl (d + 3) 333 [.ref 0, .int v] M = iR (bI (qin v B ∧ dp_I M 100 (v.toNatClampNeg * 7 + 0) = 0)) M := by
  rw [D_X11_isOpenBatch_0_den, D_X11_isOpenBatch_0_eq, lc_isB hB h, rb_bi]
  by_cases q : qin v B
  · obtain ⟨j, hj, rfl⟩ := qin_of q (by omega)
    rw [bI, if_pos q, if_neg (by decide), lc_state rfl (by omega), rb_bi]
    simp only [q, true_and, nI_cl (show j < 2147483648 by omega)]
    split <;> simp_all [bI]
  · rw [bI, if_neg q, if_pos rfl]; simp [bI, q]
theorem c_batch_x {v1 v2 : Int32} (hn : 246 ≤ dp_n M) (g : ¬ (qin v1 100001 ∧ qin v2 100001)) : dp_den true xs xl (d + 4) 332 [.ref 0, .int v1, .int v2] M = xR 0 (dp_new M 0 0 6) := by
  rw [D_X11_batch_0_den, D_X11_batch_0_eq, lc_day, rb_bi]
  by_cases g1 : qin v1 100001
  · rw [bI, if_pos g1, if_neg (by decide), lc_day, rb_bi, bI, if_neg (fun g2 => g ⟨g1, g2⟩), if_pos rfl, q_nk hn]
  · rw [bI, if_neg g1, if_pos rfl, q_nk hn]
theorem c_batch_y {v1 v2 : Int32} {B : Nat} (hB : dp_I M 97 0 = nI B) (h8 : B = 800) (hn : 246 ≤ dp_n M) (g1 : qin v1 100001) (g2 : qin v2 100001) : dp_den true xs xl (d + 4) 332 [.ref 0, .int v1, .int v2] M = xR 1 (dp_new M 0 0 6) := by
  rw [D_X11_batch_0_den, D_X11_batch_0_eq, lc_day, rb_bi, bI, if_pos g1, if_neg (by decide), lc_day, rb_bi, bI, if_pos g2, if_neg (by decide), hB, if_neg (show ¬ nI (B) < (800 : Int32) from nI_nlt (a := B) (b := 800) (by omega) (by omega)), q_nk hn]
theorem c_batch {v1 v2 : Int32} {B : Nat} (hB : dp_I M 97 0 = nI B) (h8 : B < 800) (g1 : qin v1 100001) (g2 : qin v2 100001) : dp_den true xs xl (d + 4) 332 [.ref 0, .int v1, .int v2] M =
    iR (nI B) (dp_setI (dp_setI (dp_setI (dp_setI (dp_setI M 100 (B * 7 + 2) (-1)) 100 (B * 7 + 3) (-1)) 100 (B * 7 + 5) v1) 100 (B * 7 + 6) v2) 97 0 (nI (B + 1))) := by
  rw [D_X11_batch_0_den, D_X11_batch_0_eq, lc_day, rb_bi, bI, if_pos g1, if_neg (by decide), lc_day, rb_bi, bI, if_pos g2, if_neg (by decide), hB, if_pos (show nI (B) < (800 : Int32) from nI_lt (a := B) (b := 800) (by omega) (by omega)), lc_begin hB h8, rb_bi]
theorem m_batch_x {v1 v2 : Int32} (g : ¬ (qin v1 100001 ∧ qin v2 100001)) : dp_den true xs xl (d + 4) 546 [.ref 114, .int v1, .int v2] M = iR 0 (dp_setI M 114 0 1) := by
  rw [D_X12_batch_0_den, D_X12_batch_0_eq, lm_day, rb_bi]
  by_cases g1 : qin v1 100001
  · rw [bI, if_pos g1, if_neg (by decide), lm_day, rb_bi, bI, if_neg (fun g2 => g ⟨g1, g2⟩), if_pos rfl, q_ref, rb_bi]
  · rw [bI, if_neg g1, if_pos rfl, q_ref, rb_bi]
theorem m_batch_y {v1 v2 : Int32} {B : Nat} (hB : dp_I M 114 141 = nI B) (h8 : B = 800) (g1 : qin v1 100001) (g2 : qin v2 100001) : dp_den true xs xl (d + 4) 546 [.ref 114, .int v1, .int v2] M = iR 0 (dp_setI M 114 0 2) := by
  rw [D_X12_batch_0_den, D_X12_batch_0_eq, lm_day, rb_bi, bI, if_pos g1, if_neg (by decide), lm_day, rb_bi, bI, if_pos g2, if_neg (by decide), hB, if_pos (by rw [h8]; rfl), q_ref, rb_bi]
theorem m_batch {v1 v2 : Int32} {B : Nat} (hB : dp_I M 114 141 = nI B) (h8 : B < 800) (g1 : qin v1 100001) (g2 : qin v2 100001) : dp_den true xs xl (d + 4) 546 [.ref 114, .int v1, .int v2] M =
    iR (nI B) (dp_setI (dp_setI (dp_setI (dp_setI (dp_setI (dp_setI (dp_setI (dp_setI (dp_setI M 114 0 0) 221 B 0) 222 B v1) 223 B v2) 224 B (-1)) 225 B (-1)) 226 B 0) 227 B 0) 114 141 (nI (B + 1))) := by
  rw [D_X12_batch_0_den, D_X12_batch_0_eq, lm_day, rb_bi, bI, if_pos g1, if_neg (by decide), lm_day, rb_bi, bI, if_pos g2, if_neg (by decide), hB, if_neg (show ¬ nI (B) = (800 : Int32) from fun e => absurd ((nI_eq (a := B) (b := 800) (by omega) (by omega)).mp e) (by omega))]
  simp only [dp_w, gII, if_true, uI, Nat.reduceEqDiff, if_false, hB]
  rw [lm_begins rfl (by omega), rb_bv]
  simp only [gII, if_true, uI, Nat.reduceEqDiff, if_false, hB, nI_1, nI_pred]
/-- batch -/
theorem s_batch (h : RelL M) (hn : 246 ≤ dp_n M) (v1 v2 : Int32) : ∃ k b M1 M2, dp_den true xs xl (d + 5) 637 [.ref 0, .int v1, .int v2, .ref 245] M = iR k M1 ∧ dp_den true xs xl (d + 5) 546 [.ref 114, .int v1, .int v2] M1 = iR b M2 ∧
    dp_I M2 114 0 = k ∧ (k = 0 → dp_J M2 245 0 = b.toInt64) ∧ RelL M2 ∧ Off (245 :: RelL_S) (0 :: RelL_T) M M2 ∧ Cst 1 6 M M2 := by
  have h0 := h
  obtain ⟨B, E, hB8, hE4, a1, a2, a3, a4, a5, a6, a7, a8, a9, a10, a11, a12, a13, a14, a15, a16⟩ := h
  by_cases g : qin v1 100001 ∧ qin v2 100001
  case neg =>
    exact ⟨1, 0, _, _, wL_batch_x0 (c_batch_x hn g), m_batch_x g, rfl, (fun e => by cases e), RelL_off h0 (((Off.rr [] [0] M).N hn 0 0 6).F 0 (by decide) 1) (by decide) (by decide), ((Off.rr _ _ M).N hn 0 0 6).F 0 (by decide) 1, ⟨Nat.le_refl _, Nat.le_refl _⟩⟩
  by_cases h8 : B = 800
  · exact ⟨2, 0, _, _, wL_batch_x1 (c_batch_y a1 h8 hn g.1 g.2), m_batch_y (by rw [gIN (by omega)]; exact a2) h8 g.1 g.2, rfl, (fun e => by cases e), RelL_off h0 (((Off.rr [] [0] M).N hn 0 0 6).F 0 (by decide) 2) (by decide) (by decide), ((Off.rr _ _ M).N hn 0 0 6).F 0 (by decide) 2, ⟨Nat.le_refl _, Nat.le_refl _⟩⟩
  refine ⟨0, nI B, _, _, wL_batch_ok (c_batch a1 (by omega) g.1 g.2), m_batch (B := B) (by simp [gII, gIJ, uI, a2]) (by omega) g.1 g.2, by simp [gII, uI], (fun _ => by simp [gII, gJI, gJJ, uI]), ?_, ?_, ⟨Nat.le_add_right _ _, Nat.le_add_right _ _⟩⟩
  · refine ⟨B + 1, E, by omega, hE4, ?_⟩
    refine ⟨by simp [gII, gIJ, gIR, gJI, gJJ, gJR, gRI, gRJ, glI, glJ, glR, uI], by simp [gII, gIJ, gIR, gJI, gJJ, gJR, gRI, gRJ, glI, glJ, glR, uI], by simp [gII, gIJ, gIR, gJI, gJJ, gJR, gRI, gRJ, glI, glJ, glR, uI, a3], by simp [gII, gIJ, gIR, gJI, gJJ, gJR, gRI, gRJ, glI, glJ, glR, uI, a4], by simp [gII, gIJ, gIR, gJI, gJJ, gJR, gRI, gRJ, glI, glJ, glR, uI, a5], by simp [gII, gIJ, gIR, gJI, gJJ, gJR, gRI, gRJ, glI, glJ, glR, uI, a6], by simp [gII, gIJ, gIR, gJI, gJJ, gJR, gRI, gRJ, glI, glJ, glR, uI, a7], by simp [gII, gIJ, gIR, gJI, gJJ, gJR, gRI, gRJ, glI, glJ, glR, uI, a8], by simp [gII, gIJ, gIR, gJI, gJJ, gJR, gRI, gRJ, glI, glJ, glR, uI, a9], by simp [gII, gIJ, gIR, gJI, gJJ, gJR, gRI, gRJ, glI, glJ, glR, uI, a10], by simp [gII, gIJ, gIR, gJI, gJJ, gJR, gRI, gRJ, glI, glJ, glR, uI, a11], by simp only [gII, gIJ, Nat.reduceEqDiff, if_false]; exact a12, by simp only [gII, gIJ, Nat.reduceEqDiff, if_false]; exact a13, fun b hb => ?_, fun b k h1 h2 h3 => ?_, fun i hi => ?_⟩
    · by_cases e : b = B
      · subst e
        have z0 := a15 b 0 (Nat.le_refl _) (by omega) (by omega)
        have z1 := a15 b 1 (Nat.le_refl _) (by omega) (by omega)
        have z4 := a15 b 4 (Nat.le_refl _) (by omega) (by omega)
        refine ⟨0, Nat.zero_le _, ?_⟩
        simp [gII, gIJ, gIR, gJI, gJJ, gJR, gRI, gRJ, glI, glJ, glR, uI] at z0 ⊢
        simp [z0, z1, z4]
        exact nI_0.symm
      · refine (a14 b (by omega)).same (fun k hk => ?_) (fun k hk => ⟨?_, ?_, ?_, ?_⟩) ⟨?_, ?_, ?_, ?_, ?_, ?_, ?_⟩
        · simp only [gII, gIJ, gIR, gJI, gJJ, gJR, gRI, gRJ, glI, glJ, glR, uI, Nat.reduceEqDiff, if_true, if_false]
          rw [if_neg (by omega), if_neg (by omega), if_neg (by omega), if_neg (by omega)]
        all_goals simp [gII, gIJ, gIR, gJI, gJJ, gJR, gRI, gRJ, glI, glJ, glR, uI, e]
    · simp only [gII, gIJ, gIR, gJI, gJJ, gJR, gRI, gRJ, glI, glJ, glR, uI, Nat.reduceEqDiff, if_true, if_false]
      rw [if_neg (by omega), if_neg (by omega), if_neg (by omega), if_neg (by omega)]
      exact a15 b k (by omega) h2 h3
    · obtain ⟨b, k, n, q1, q2, q3, q4⟩ := a16 i hi
      have e : b ≠ B := by omega
      exact ⟨b, k, n, by omega, by simp [gII, gIJ, gIR, gJI, gJJ, gJR, gRI, gRJ, glI, glJ, glR, uI, e, q2], by simp [gII, gIJ, gIR, gJI, gJJ, gJR, gRI, gRJ, glI, glJ, glR, uI, e, q3], by simpa [gII, gIJ, gIR, gJI, gJJ, gJR, gRI, gRJ, glI, glJ, glR, uI] using q4⟩
  · repeat first | apply Off.F _ (by decide) | apply Off.I _ (by decide) | apply Off.J _ (by decide)
    exact Off.rr _ _ _
end LES
