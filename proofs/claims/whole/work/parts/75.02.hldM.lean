/-! HOLD: move -/
section HC
variable {xs : Nat → Int32} {xl d : Nat} {M : dp_M}
theorem t_40' {b i : Nat} : (40 : Int32) * nI b + nI i = nI (b * 40 + i) := by rw [show (40 : Int32) = nI 40 from rfl, pk_mul, nI_add, Nat.mul_comm]
theorem t_16b {b i : Nat} : nI b * (16 : Int32) + nI i = nI (b * 16 + i) := by rw [show (16 : Int32) = nI 16 from rfl, pk_mul, nI_add]
/-- what a planned move answers -/
def pmv (x f t e i w : Nat) : Int32 := if w = 0 then nI x else if w = 1 then nI f else if w = 2 then nI t else if i < e then 1 else 0
theorem hc_pm {B b i w x f t e : Nat} (hB : B ≤ 12) (hb : b < B) (hi : i < 16) (hw : w < 4) (hx : x < 100) (hf : f < 7) (ht : t < 5) (he : e ≤ 16) (l26 : dp_len M 26 = B) (l27 : dp_len M 27 = B * 16) (h1 : dp_I M 27 (b * 16 + i) = nI (x * 64 + f * 8 + t)) (h2 : dp_I M 26 b = nI e) : dp_den true xs xl (d + 1) 68 [.ref 1, .int (nI b), .int (nI i), .int (nI w)] M = iR (pmv x f t e i w) M := by
  obtain ⟨p1, p2, p3⟩ := q_pk (x := x) (f := f) (t := t) hx (by omega) (by omega)
  rw [D_X2_plannedMove_0_den, D_X2_plannedMove_0_eq]
  simp only [t_16b, nI_cl (show b * 16 + i < 2147483648 by omega), l26, l27, nI_o (show b * 16 + i < B * 16 by omega) (by omega), nI_cl (show b < 2147483648 by omega), nI_o hb (by omega), if_false, dp_w, h1, h2, p1, p2, p3]
  unfold pmv
  have : w = 0 ∨ w = 1 ∨ w = 2 ∨ w = 3 := by omega
  rcases this with rfl | rfl | rfl | rfl
  · rfl
  · rfl
  · rfl
  · show (if nI e ≤ nI i then iR 0 M else iR 1 M) = iR (if i < e then 1 else 0) M
    by_cases z : i < e
    · rw [if_pos z, if_neg (nI_nge z (by omega))]
    · rw [if_neg z, if_pos (nI_lle (by omega) (by omega))]
theorem s_move {n B T : Nat} (h : HR M n B T) (hn : 246 ≤ dp_n M) (v1 v2 v3 : Int32) : ∃ k b M1 M2, dp_den true xs xl (d + 5) 597 [.ref 0, .int v1, .int v2, .int v3, .ref 245] M = iR k M1 ∧ dp_den true xs xl (d + 5) 388 [.ref 114, .int v1, .int v2, .int v3] M1 = iR b M2 ∧
    dp_I M2 114 0 = k ∧ (k = 0 → dp_J M2 245 0 = b.toInt64) ∧ HR M2 n B T ∧ Off [245] [0] M M2 ∧ Cst 1 6 M M2 := by
  have h0 := h
  obtain ⟨a1, a2, a3, a4, a5, a6, a7, a8, a9, a10, a11, a12, a13, a14, a15, b1, b2, b3, b4, b5, b6, b7, b8, b9, b10, c1, c2, c3⟩ := h
  by_cases g : qin v1 B
  case neg =>
    refine ⟨1, 0, dp_new M 0 0 6, _, wL_move_x2 ?_, ?_, rfl, (fun e => by cases e), h0.refused hn 1⟩
    · rw [D_X11_move_0_den, D_X11_move_0_eq, pc_bay a8 a3, rb_bi, ibz, if_neg g, q_nk hn]
    · rw [D_X12_move_0_den, D_X12_move_0_eq, pm_bay (n := B) (by rw [gIN (by omega)]; exact a9) a3, rb_bi, ibz, if_neg g, q_ref, rb_bi]
  obtain ⟨b, hb, rfl⟩ := qin_of g (by omega)
  have hm : ∀ N : dp_M, dp_I N 114 1 = nI B → dp_den true xs xl (d + 5) 388 [.ref 114, .int (nI b), .int v2, .int v3] N = D_X12_move_25 xs xl (d + 4) (nI b) v2 v3 (nI b) N := fun N hN => by
    rw [D_X12_move_0_den, D_X12_move_0_eq, pm_bay hN a3, rb_bi, ibz, if_pos g, pm_bay hN a3, rb_bi, ibz, if_pos g]
  have hc : dp_den true xs xl (d + 4) 267 [.ref 0, .int (nI b), .int v2, .int v3] M = if (0 : Int64) ≤ v2.toInt64 ∧ v2.toInt64 ≤ (dp_I M 25 b - 1).toInt64 then (if qin v3 4 then dp_bi (dp_den true xs xl (d + 3) 68 [.ref 1, .int (nI b), .int v2, .int v3] M) (fun r8 M7 => iR r8 M7) else xR 2 (dp_new M 0 0 6)) else xR 2 (dp_new M 0 0 6) := by
    rw [D_X11_move_0_den, D_X11_move_0_eq, pc_bay a8 a3, rb_bi, ibz, if_pos g]
    simp only [nI_cl (show b < 2147483648 by omega), a13, nI_o hb (by omega), if_false, q_win, rb_bi, ibz, q_nk hn, w_3]
  rcases c3 b hb with ⟨p1, p2⟩ | ⟨p1, L, e, q1, q2, q3, q4, q5, q6, mb, mf, mt, q7, q8⟩
  · refine ⟨1, 0, dp_new M 0 0 6, _, wL_move_x2 ?_, ?_, rfl, (fun e => by cases e), h0.refused hn 1⟩
    · rw [hc, p2, if_neg]
      rintro ⟨y1, y2⟩
      have e1 : ((-1 : Int32) - 1).toInt64 = -2 := by decide
      rw [e1] at y2
      exact absurd (Int64.le_trans y1 y2) (by decide)
    · rw [hm _ (by rw [gIN (by omega)]; exact a9), D_X12_move_25_eq]
      simp only [nI_cl (show b < 2147483648 by omega), nI_o (show b < 12 by omega) (by omega), if_false, gIN (show 120 < dp_n M by omega), p1, if_true, q_ref, rb_bi]
  have c12 : ∀ N : dp_M, dp_I N 120 b = 1 → dp_I N 121 b = nI L → D_X12_move_25 xs xl (d + 4) (nI b) v2 v3 (nI b) N = if qin v2 L ∧ qin v3 4 then (if v3 = 0 then (if ((40 : Int32) * nI b + v2) < 0 ∨ 480 ≤ ((40 : Int32) * nI b + v2).toNatClampNeg then none else iR (dp_I (dp_setI N 114 0 0) 123 ((40 : Int32) * nI b + v2).toNatClampNeg) (dp_setI N 114 0 0)) else (if v3 = (1 : Int32) then (if ((40 : Int32) * nI b + v2) < 0 ∨ 480 ≤ ((40 : Int32) * nI b + v2).toNatClampNeg then none else iR (dp_I (dp_setI N 114 0 0) 124 ((40 : Int32) * nI b + v2).toNatClampNeg) (dp_setI N 114 0 0)) else (if v3 = (2 : Int32) then (if ((40 : Int32) * nI b + v2) < 0 ∨ 480 ≤ ((40 : Int32) * nI b + v2).toNatClampNeg then none else iR (dp_I (dp_setI N 114 0 0) 125 ((40 : Int32) * nI b + v2).toNatClampNeg) (dp_setI N 114 0 0)) else (if (dp_I (dp_setI N 114 0 0) 122 b) ≤ v2 then iR 0 (dp_setI N 114 0 0) else iR 1 (dp_setI N 114 0 0))))) else iR 0 (dp_setI N 114 0 1) := fun N h1 h2 => by
    rw [D_X12_move_25_eq]
    simp only [nI_cl (show b < 2147483648 by omega), nI_o (show b < 12 by omega) (by omega), if_false, h1, h2, q_ref, rb_bi, q_min, w_3, ibz, dp_w, if_neg (show ¬ (1 : Int32) = 0 by decide)]
    by_cases y1 : v2 < 0
    · rw [if_pos y1, if_neg (show ¬ (qin v2 L ∧ qin v3 4) from fun q => q.1 (Or.inl y1))]
    · rw [if_neg y1]
      by_cases y2 : nI L ≤ v2
      · rw [if_pos y2, if_neg (show ¬ (qin v2 L ∧ qin v3 4) from fun q => q_nin y2 (by omega) q.1)]
      · rw [if_neg y2]
        have y3 : qin v2 L := by
          rw [qin_iff]
          rw [Int32.lt_iff_toInt_lt] at y1
          rw [Int32.le_iff_toInt_le, nI_toInt (by omega)] at y2
          have : (0 : Int32).toInt = 0 := by decide
          omega
        by_cases y4 : qin v3 4
        · rw [if_pos y4, if_pos (show qin v2 L ∧ qin v3 4 from ⟨y3, y4⟩)]
        · rw [if_neg y4, if_neg (show ¬ (qin v2 L ∧ qin v3 4) from fun q => y4 q.2)]
  by_cases y1 : qin v2 L ∧ qin v3 4
  case neg =>
    refine ⟨1, 0, dp_new M 0 0 6, _, wL_move_x2 ?_, ?_, rfl, (fun e => by cases e), h0.refused hn 1⟩
    · rw [hc, q3]
      simp only [q_w (show L < 2147483648 by omega)]
      by_cases z : qin v2 L
      · rw [if_pos z, if_neg (fun q => y1 ⟨z, q⟩)]
      · rw [if_neg z]
    · rw [hm _ (by rw [gIN (by omega)]; exact a9), c12 _ (by rw [gIN (by omega)]; exact p1) (by rw [gIN (by omega)]; exact q4), if_neg y1]
  obtain ⟨y2, y3⟩ := y1
  obtain ⟨i, hi, rfl⟩ := qin_of y2 (by omega)
  obtain ⟨w, hw, rfl⟩ := qin_of y3 (by omega)
  obtain ⟨r1, r2, r3, r4, r5, r6, r7⟩ := q7 i hi
  have hcl : dp_den true xs xl (d + 4) 267 [.ref 0, .int (nI b), .int (nI i), .int (nI w)] M = iR (pmv (mb i) (mf i) (mt i) e i w) M := by
    rw [hc, q3]
    simp only [q_w (show L < 2147483648 by omega)]
    rw [if_pos y2, if_pos y3, hc_pm a3 hb (by omega) hw r1 r2 r3 (by omega) a14 a15 r4 q5, rb_bi]
  refine ⟨0, pmv (mb i) (mf i) (mt i) e i w, _, dp_setI (dp_setJ M 245 0 (pmv (mb i) (mf i) (mt i) e i w).toInt64) 114 0 0, wL_move_ok hcl, ?_, by simp [gII, uI], fun _ => by simp [gJI, gJJ, uI], h0.looked _⟩
  rw [hm _ (by rw [gIJ]; exact a9), c12 _ (by rw [gIJ]; exact p1) (by rw [gIJ]; exact q4), if_pos ⟨y2, y3⟩]
  simp only [t_40', nI_cl (show b * 40 + i < 2147483648 by omega), nI_o (show b * 40 + i < 480 by omega) (by omega), if_false, gII, gIJ, Nat.reduceEqDiff, r5, r6, r7, q6]
  unfold pmv
  have : w = 0 ∨ w = 1 ∨ w = 2 ∨ w = 3 := by omega
  rcases this with rfl | rfl | rfl | rfl
  · rfl
  · rfl
  · rfl
  · show (if nI e ≤ nI i then iR 0 (dp_setI (dp_setJ M 245 0 (if i < e then (1 : Int32) else 0).toInt64) 114 0 0) else iR 1 (dp_setI (dp_setJ M 245 0 (if i < e then (1 : Int32) else 0).toInt64) 114 0 0)) = iR (if i < e then 1 else 0) (dp_setI (dp_setJ M 245 0 (if i < e then (1 : Int32) else 0).toInt64) 114 0 0)
    by_cases z : i < e
    · rw [if_pos z, if_neg (nI_nge z (by omega))]
    · rw [if_neg z, if_pos (nI_lle (by omega) (by omega))]
end HC
