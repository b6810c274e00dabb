/-! THE TARIFF: row, class and model -/
section TH
variable {xs : Nat → Int32} {xl d : Nat} {M : dp_M}
theorem cl_c {M M' : dp_M} {v1 v2 v3 v4 v5 v6 : Int32} (h : ∀ k, k = 156 ∨ k = 157 ∨ k = 158 ∨ k = 159 ∨ k = 160 ∨ k = 164 ∨ k = 165 ∨ k = 166 → dp_I M' k = dp_I M k) (h2 : dp_I M' 114 67 = dp_I M 114 67) (r : Nat) : cl M' v1 v2 v3 v4 v5 v6 r = cl M v1 v2 v3 v4 v5 v6 r := by
  unfold cl lD
  simp only [h 156 (by omega), h 157 (by omega), h 158 (by omega), h 159 (by omega), h 160 (by omega), h 164 (by omega), h 165 (by omega), h 166 (by omega), h2]
/-- row -/
theorem s_row (h : RelT M) (hn : 246 ≤ dp_n M) (v1 v2 v3 v4 v5 v6 v7 : Int32) : ∃ k b M1 M2, dp_den true xs xl (d + 5) 619 [.ref 0, .int v1, .int v2, .int v3, .int v4, .int v5, .int v6, .int v7, .ref 245] M = iR k M1 ∧ dp_den true xs xl (d + 5) 453 [.ref 114, .int v1, .int v2, .int v3, .int v4, .int v5, .int v6, .int v7] M1 = iR b M2 ∧
    dp_I M2 114 0 = k ∧ (k = 0 → dp_J M2 245 0 = b.toInt64) ∧ RelT M2 ∧ Off (245 :: RelT_S) (0 :: RelT_T) M M2 ∧ Cst 1 6 M M2 := by
  have h0 := h
  obtain ⟨R, K, hR, hK, a1, a2, a3, a4, a5, a6, a7, a8, a9, a10, a11, a12, a13⟩ := h
  by_cases g : dg v1 ≠ 0 ∧ (wi v2 0 23 ∨ v2 = 31) ∧ qin v3 10001 ∧ (qin v4 10001 ∨ v4 = 20000) ∧ ¬ v4 < v3 ∧ qin v7 10001 ∧ qin v5 8 ∧ qin v6 10
  case neg =>
    refine ⟨1, 0, dp_new M 0 0 6, _, wL_row_x0 ?_, ?_, rfl, (fun e => by cases e), h0.refused hn 1⟩
    · rw [D_X11_row_0_den, D_X11_row_0_eq]
      simp only [tc_code, tc_day, tc_last, q_win, rb_bi, ibz, q_nk hn, D_X11_row_36_eq, w_7, w_9, wi_64 (a := 0) (b := 23) 0 23 (by decide) (by decide)]
      by_cases q1 : dg v1 ≠ 0
      case neg => rw [if_neg q1]
      rw [if_pos q1]
      have fin : ∀ (X : Option dp_Res), (wi v2 0 23 ∨ v2 = 31) → (if qin v3 10001 then if qin v4 10001 ∨ v4 = 20000 then if v4 < v3 then (xR 0 (dp_new M 0 0 6)) else if qin v7 10001 then if qin v5 8 then if qin v6 10 then X else xR 0 (dp_new M 0 0 6) else xR 0 (dp_new M 0 0 6) else xR 0 (dp_new M 0 0 6) else xR 0 (dp_new M 0 0 6) else xR 0 (dp_new M 0 0 6)) = xR 0 (dp_new M 0 0 6) := fun X q2 => by
        repeat' split
        all_goals first | rfl | (exfalso; exact g ⟨q1, q2, by assumption, by assumption, by assumption, by assumption, by assumption, by assumption⟩)
      by_cases q2 : wi v2 0 23
      · rw [if_pos q2]; exact fin _ (Or.inl q2)
      · rw [if_neg q2]
        by_cases q3 : v2 = 31
        · rw [if_pos q3]; exact fin _ (Or.inr q3)
        · rw [if_neg q3]
    · rw [D_X12_row_0_den, D_X12_row_0_eq]
      simp only [tm_dig, tm_day, q_min, q_ref, rb_bi, ibz, D_X12_row_25_eq, D_X12_row_48_eq, w_7, w_9, wi_64 (a := 0) (b := 23) 0 23 (by decide) (by decide)]
      by_cases q1 : dg v1 = 0
      · rw [if_pos q1]
      rw [if_neg q1]
      by_cases q2 : wi v2 0 23 ∨ v2 = 31
      case neg => rw [if_neg (fun q => q2 (Or.inl q)), if_neg (fun q => q2 (Or.inr q))]
      by_cases q3 : qin v3 10001
      case neg => simp only [if_neg q3]; split <;> simp [q2.resolve_left, *]
      by_cases q4 : qin v4 10001 ∨ v4 = 20000
      case neg =>
        simp only [if_pos q3, if_neg (show ¬ qin v4 10001 from fun q => q4 (Or.inl q)), if_neg (show ¬ v4 = 20000 from fun q => q4 (Or.inr q))]; split <;> simp [q2.resolve_left, *]
      by_cases q5 : v4 < v3
      · simp only [if_pos q3, if_pos q5]
        repeat' split
        all_goals first | rfl | (exfalso; exact (q2.resolve_left (by assumption)) |> (by assumption : ¬ v2 = 31)) | (exfalso; exact (q4.resolve_left (by assumption)) |> (by assumption : ¬ v4 = 20000))
      simp only [if_pos q3, if_neg q5]
      have fin : ∀ (X : Option dp_Res), (if qin v5 8 then if qin v6 10 then if qin v7 10001 then X else iR 0 (dp_setI (dp_new M 0 0 6) 114 0 1) else iR 0 (dp_setI (dp_new M 0 0 6) 114 0 1) else iR 0 (dp_setI (dp_new M 0 0 6) 114 0 1)) = iR 0 (dp_setI (dp_new M 0 0 6) 114 0 1) := fun X => by
        repeat' split
        all_goals first | rfl | (exfalso; exact g ⟨q1, q2, q3, q4, q5, by assumption, by assumption, by assumption⟩)
      simp only [fin]
      repeat' split
      all_goals first | rfl | (exfalso; exact (q2.resolve_left (by assumption)) |> (by assumption : ¬ v2 = 31)) | (exfalso; exact (q4.resolve_left (by assumption)) |> (by assumption : ¬ v4 = 20000))
  obtain ⟨g1, g2, g3, g4, g5, g6, g7, g8⟩ := g
  have hc0 : dp_den true xs xl (d + 4) 300 [.ref 0, .int v1, .int v2, .int v3, .int v4, .int v5, .int v6, .int v7] M = if R < 300 then dp_bi (dp_den true xs xl (d + 3) 213 [.ref 51, .int v1, .int v2, .int v3, .int v4, .int v5, .int v6, .int v7] M) (fun r M1 => iR r M1) else xR 1 (dp_new M 0 0 6) := by
    rw [D_X11_row_0_den, D_X11_row_0_eq]
    simp only [tc_code, tc_day, tc_last, q_win, rb_bi, ibz, q_nk hn, D_X11_row_36_eq, w_7, w_9, wi_64 (a := 0) (b := 23) 0 23 (by decide) (by decide), if_pos g1, if_pos g3, if_pos g4, if_neg g5, if_pos g6, if_pos g7, if_pos g8, a1]
    have e : (if nI R < 300 then dp_bi (dp_den true xs xl (d + 3) 213 [.ref 51, .int v1, .int v2, .int v3, .int v4, .int v5, .int v6, .int v7] M) (fun r M1 => iR r M1) else xR 1 (dp_new M 0 0 6)) = if R < 300 then dp_bi (dp_den true xs xl (d + 3) 213 [.ref 51, .int v1, .int v2, .int v3, .int v4, .int v5, .int v6, .int v7] M) (fun r M1 => iR r M1) else xR 1 (dp_new M 0 0 6) := by
      by_cases z : R < 300
      · rw [if_pos z, if_pos (show nI (R) < (300 : Int32) from nI_lt (a := R) (b := 300) (by omega) (by omega))]
      · rw [if_neg z, if_neg (show ¬ nI (R) < (300 : Int32) from nI_nlt (a := R) (b := 300) (by omega) (by omega))]
    by_cases q : wi v2 0 23
    · rw [if_pos q]; exact e
    · rw [if_neg q, if_pos (g2.resolve_left q)]; exact e
  have hm0 : ∀ N : dp_M, dp_I N 114 55 = nI R → dp_den true xs xl (d + 5) 453 [.ref 114, .int v1, .int v2, .int v3, .int v4, .int v5, .int v6, .int v7] N = if R = 300 then iR 0 (dp_setI N 114 0 2) else D_X12_row_118 xs xl (d + 4) v1 v2 v3 v4 v5 v6 v7 (nI 1) (dp_setI N 114 0 0) := fun N hN => by
    have e : D_X12_row_48 xs xl (d + 4) v1 v2 v3 v4 v5 v6 v7 N = if R = 300 then iR 0 (dp_setI N 114 0 2) else D_X12_row_118 xs xl (d + 4) v1 v2 v3 v4 v5 v6 v7 (nI 1) (dp_setI N 114 0 0) := by
      rw [D_X12_row_48_eq]
      simp only [tm_day, q_min, q_ref, rb_bi, ibz, w_7, w_9, if_neg g5, if_pos g6, if_pos g7, if_pos g8, hN, dp_w]
      by_cases z : R = 300
      · rw [if_pos z, if_pos (by rw [z]; rfl)]
      · rw [if_neg z, if_neg (show ¬ nI (R) = (300 : Int32) from fun e => absurd ((nI_eq (a := R) (b := 300) (by omega) (by omega)).mp e) (by omega))]; rfl
    have e2 : D_X12_row_25 xs xl (d + 4) v1 v2 v3 v4 v5 v6 v7 N = D_X12_row_48 xs xl (d + 4) v1 v2 v3 v4 v5 v6 v7 N := by
      rw [D_X12_row_25_eq]
      simp only [tm_day, rb_bi, ibz, if_pos g3]
      by_cases q : qin v4 10001
      · rw [if_pos q]
      · rw [if_neg q, if_pos (g4.resolve_left q)]
    rw [D_X12_row_0_den, D_X12_row_0_eq]
    simp only [tm_dig, q_min, rb_bi, ibz, wi_64 (a := 0) (b := 23) 0 23 (by decide) (by decide), if_neg g1]
    by_cases q : wi v2 0 23
    · rw [if_pos q, e2, e]
    · rw [if_neg q, if_pos (g2.resolve_left q), e2, e]
  by_cases gR : R < 300
  case neg =>
    refine ⟨2, 0, dp_new M 0 0 6, _, wL_row_x1 (by rw [hc0, if_neg gR]), ?_, rfl, (fun e => by cases e), h0.refused hn 2⟩
    rw [hm0 _ (by rw [gIN (by omega)]; exact a2), if_pos (by omega)]
  -- the memory as the model finds it
  have o1 := tW_off (M := M) (s := R + 1) (v1 := v1) (v2 := v2) (v3 := v3) (v4 := v4) (v5 := v5) (v6 := v6) (v7 := v7)
  have t1 : ∀ r, 1 ≤ r → r ≤ R → TRw (tW M (R + 1) v1 v2 v3 v4 v5 v6 v7) r := fun r h1 h2 => tW_row (a13 r h1 h2) (by omega)
  have hWI : ∀ k, k ∉ [60, 61, 52, 53, 62, 54, 63, 64] → dp_I (tW M (R + 1) v1 v2 v3 v4 v5 v6 v7) k = dp_I M k := fun k hk => by
    simp only [List.mem_cons, List.not_mem_nil, or_false, not_or] at hk
    unfold tW
    simp only [gII]
    simp [hk]
  rcases fst_or (cl M v1 v2 v3 v4 v5 v6) 1 (R + 1) with ⟨j, j1, j2, j3, j4⟩ | j0
  · have hcl : dp_den true xs xl (d + 4) 300 [.ref 0, .int v1, .int v2, .int v3, .int v4, .int v5, .int v6, .int v7] M = iR (-1 - nI j) (tW M (R + 1) v1 v2 v3 v4 v5 v6 v7) := by
      rw [hc0, if_pos gR, (tc_addRow gR a1 a13 g6).1 j j1 (by omega) j3 j4, rb_bi]
    have oo : Off [60, 61, 52, 53, 62, 54, 63, 64, 245] [0] M (dp_setI (dp_setJ (tW M (R + 1) v1 v2 v3 v4 v5 v6 v7) 245 0 (-1 - nI j).toInt64) 114 0 0) := ((o1.mono (by decide) (by decide) : Off [60, 61, 52, 53, 62, 54, 63, 64, 245] [0] M _).J 245 (by decide) 0 _).F 0 (by decide) 0
    refine ⟨0, -1 - nI j, _, dp_setI (dp_setJ (tW M (R + 1) v1 v2 v3 v4 v5 v6 v7) 245 0 (-1 - nI j).toInt64) 114 0 0, wL_row_ok hcl, ?_, ?_, fun _ => ?_, ?_, oo.mono (by decide) (by decide), ⟨Nat.le_add_right _ _, Nat.le_add_right _ _⟩⟩
    · rw [hm0 _ (by rw [gIJ, hWI 114 (by decide)]; exact a2), if_neg (by omega)]
      have cc : ∀ i, cl (dp_setI (dp_setJ (tW M (R + 1) v1 v2 v3 v4 v5 v6 v7) 245 0 (-1 - nI j).toInt64) 114 0 0) v1 v2 v3 v4 v5 v6 i = cl M v1 v2 v3 v4 v5 v6 i := fun i => cl_c (fun k hk => by rw [gII, if_neg (by omega), gIJ, hWI k (by simp only [List.mem_cons, List.not_mem_nil, or_false]; omega)]) (by rw [gII, if_pos rfl, uI_n (by decide), gIJ, hWI 114 (by decide)]) i
      refine (tm_row (M := dp_setI (dp_setJ (tW M (R + 1) v1 v2 v3 v4 v5 v6 v7) 245 0 (-1 - nI j).toInt64) 114 0 0) gR ?_ (fun r h1 h2 => ?_)).1 j j1 (by omega) ?_ (fun i h1 h2 => ?_)
      · rw [gII, if_pos rfl, uI_n (by decide), gIJ, hWI 114 (by decide)]; exact a2
      · exact (t1 r h1 h2).off (((Off.rr [245] [0] _).J 245 (by decide) 0 _).F 0 (by decide) 0) (by decide) (by decide)
      · rw [cc]; exact j3
      · rw [cc]; exact j4 i h1 h2
    · simp [gII, uI]
    · simp [gJI, gJJ, uI]
    · refine ⟨R, K, hR, hK, ?_, ?_, ?_, ?_, ?_, fun i hi => ?_, fun k hk => ?_, ?_, ?_, ?_, ?_, ?_, fun r h1 h2 => (t1 r h1 h2).off (((Off.rr [245] [0] _).J 245 (by decide) 0 _).F 0 (by decide) 0) (by decide) (by decide)⟩
      all_goals simp only [gII, gIJ, Nat.reduceEqDiff, if_false, if_true, uI_n (show (55 : Nat) ≠ 0 by decide), uI_n (show (67 : Nat) ≠ 0 by decide), uI_n (show (68 : Nat) ≠ 0 by decide), uI_n (show (72 : Nat) ≠ 0 by decide), hWI 51 (by decide), hWI 114 (by decide), hWI 55 (by decide), hWI 56 (by decide), hWI 57 (by decide), hWI 65 (by decide), hWI 155 (by decide), hWI 162 (by decide), hWI 163 (by decide), hWI 168 (by decide)]
      · exact a1
      · exact a2
      · exact a3
      · exact a4
      · exact a5
      · exact a6 i hi
      · exact a7 k hk
      · exact a8
      · exact a9
      · exact a10
      · exact a11
      · exact a12
  · have hcl : dp_den true xs xl (d + 4) 300 [.ref 0, .int v1, .int v2, .int v3, .int v4, .int v5, .int v6, .int v7] M = iR (nI (R + 1)) (dp_setI (tW M (R + 1) v1 v2 v3 v4 v5 v6 v7) 51 0 (nI (R + 1))) := by
      rw [hc0, if_pos gR, (tc_addRow gR a1 a13 g6).2 j0, rb_bi]
    obtain ⟨N, hN⟩ : ∃ N, N = dp_setI (dp_setJ (dp_setI (tW M (R + 1) v1 v2 v3 v4 v5 v6 v7) 51 0 (nI (R + 1))) 245 0 (nI (R + 1)).toInt64) 114 0 0 := ⟨_, rfl⟩
    have oN : Off [51, 60, 61, 52, 53, 62, 54, 63, 64, 245] [0] M N := by
      rw [hN]
      exact (((o1.mono (by decide) (by decide) : Off [51, 60, 61, 52, 53, 62, 54, 63, 64, 245] [0] M _).I 51 (by decide) 0 _).J 245 (by decide) 0 _).F 0 (by decide) 0
    have hNI : ∀ k, k ∉ [51, 60, 61, 52, 53, 62, 54, 63, 64, 114] → dp_I N k = dp_I M k := fun k hk => by
      simp only [List.mem_cons, List.not_mem_nil, or_false, not_or] at hk
      rw [hN, gII, if_neg (by omega), gIJ, gII, if_neg (by omega), hWI k (by simp only [List.mem_cons, List.not_mem_nil, or_false]; omega)]
    have hNT : ∀ i, i ≠ 0 → dp_I N 114 i = dp_I M 114 i := fun i hi => (oN.2.1 i (by simpa using hi)).1
    have hNt : dp_I N 114 0 = 0 := by rw [hN, gII, if_pos rfl, uI_s]
    have hNC : dp_I N 60 (R + 1) = v1 ∧ dp_I N 61 (R + 1) = v2 ∧ dp_I N 52 (R + 1) = v3 ∧ dp_I N 53 (R + 1) = v5 ∧ dp_I N 62 (R + 1) = v6 ∧ dp_I N 54 (R + 1) = nI 1 ∧ dp_I N 63 ((R + 1) * 8 + 0) = v4 ∧ dp_I N 64 ((R + 1) * 8 + 0) = v7 ∧ dp_I N 51 0 = nI (R + 1) ∧ dp_I N 51 1 = dp_I M 51 1 ∧ dp_I N 51 2 = dp_I M 51 2 ∧ dp_J N 245 0 = (nI (R + 1)).toInt64 := by
      rw [hN]; unfold tW
      simp [gII, gIJ, gJI, gJJ, uI]
    have tN : ∀ r, 1 ≤ r → r ≤ R → TRw N r := fun r h1 h2 => by
      rw [hN]
      exact (t1 r h1 h2).off ((((Off.rr [51, 245] [0] _).I 51 (by decide) 0 _).J 245 (by decide) 0 _).F 0 (by decide) 0) (by decide) (by decide)
    have cc : ∀ i, cl N v1 v2 v3 v4 v5 v6 i = cl M v1 v2 v3 v4 v5 v6 i := fun i => cl_c (fun k hk => hNI k (by simp only [List.mem_cons, List.not_mem_nil, or_false]; omega)) (hNT 67 (by decide)) i
    have hmo : dp_den true xs xl (d + 5) 453 [.ref 114, .int v1, .int v2, .int v3, .int v4, .int v5, .int v6, .int v7] (dp_setJ (dp_setI (tW M (R + 1) v1 v2 v3 v4 v5 v6 v7) 51 0 (nI (R + 1))) 245 0 (nI (R + 1)).toInt64) = iR (nI (R + 1)) (mW N R v1 v2 v3 v4 v5 v6 v7) := by
      rw [hm0 _ (by rw [gIJ, gII, if_neg (by decide), hWI 114 (by decide)]; exact a2), if_neg (by omega), ← hN]
      exact (tm_row gR (by rw [hNT 55 (by decide)]; exact a2) tN).2 (fun i h1 h2 => by rw [cc]; exact j0 i h1 h2)
    refine ⟨0, nI (R + 1), _, mW N R v1 v2 v3 v4 v5 v6 v7, wL_row_ok hcl, hmo, ?_, fun _ => ?_, ?_, ?_, ?_⟩
    · unfold mW; simp [gII, uI]; exact hNt
    · unfold mW; simp only [gJI]; exact hNC.2.2.2.2.2.2.2.2.2.2.2
    · obtain ⟨c1, c2, c3, c4, c5, c6, c7, c8, c9, c10, c11, -⟩ := hNC
      have lat : dp_I N 114 67 ≤ (if v7 ≤ dp_I N 114 67 then dp_I N 114 67 else v7) ∧ v7 ≤ (if v7 ≤ dp_I N 114 67 then dp_I N 114 67 else v7) ∧ qin (if v7 ≤ dp_I N 114 67 then dp_I N 114 67 else v7) 10001 := by
        by_cases c : v7 ≤ dp_I N 114 67
        · rw [if_pos c]; exact ⟨Int32.le_refl _, c, by rw [hNT 67 (by decide)]; exact a12⟩
        · rw [if_neg c]; exact ⟨Int32.le_of_lt (Int32.not_le.mp c), Int32.le_refl _, g6⟩
      unfold mW
      generalize (if v7 ≤ dp_I N 114 67 then dp_I N 114 67 else v7) = L at lat
      refine ⟨R + 1, K, by omega, hK, ?_, ?_, ?_, ?_, ?_, fun i hi => ?_, fun k hk => ?_, ?_, ?_, fun r hr => ?_, ?_, ?_, fun r h1 h2 => ?_⟩
      · simp [gII, c9]
      · simp [gII, uI]
      · simp [gII, uI, c10, hNT 68 (by decide)]; exact a3
      · simp [gII, c11]; exact a4
      · simp [gII, uI, hNT 72 (by decide)]; exact a5
      · simp only [gII, Nat.reduceEqDiff, if_false, hNI 57 (by decide), hNI 168 (by decide)]; exact a6 i hi
      · simp only [gII, Nat.reduceEqDiff, if_false, hNI 65 (by decide), hNI 155 (by decide)]; exact a7 k hk
      · simp only [gII, Nat.reduceEqDiff, if_false, hNI 55 (by decide), hNI 162 (by decide)]; exact a8
      · simp only [gII, Nat.reduceEqDiff, if_false, hNI 56 (by decide), hNI 163 (by decide)]; exact a9
      · simp only [gII, Nat.reduceEqDiff, if_false, hNI 55 (by decide), hNI 56 (by decide)]; exact a10 r (by omega)
      · simp only [gII, Nat.reduceEqDiff, if_false, hNI 55 (by decide), hNI 56 (by decide)]; exact a11
      · simp only [gII, if_true, uI_s]; exact lat.2.2
      · by_cases e : r = R + 1
        · subst e
          refine ⟨1, by omega, by omega, ?_, ?_, ?_, ?_, ?_, ?_, ?_, ?_, ?_, ?_, ?_, ?_, fun k hk => ?_⟩
          all_goals simp only [gII, Nat.reduceEqDiff, if_false, if_true, uI_s]
          · rfl
          · exact c6
          · exact c1
          · exact c2
          · exact c3
          · exact c4
          · exact c5
          · exact g1
          · exact g2.imp (fun q => wi_qin.mpr q) id
          · exact g7
          · exact g8
          · have : k = 0 := by omega
            subst this
            rw [Nat.add_zero] at c7 c8 ⊢
            rw [uI_s, uI_s]
            exact ⟨c7, c8, g6, lat.2.1⟩
        · refine (tN r h1 (by omega)).same ?_ (fun k hk => ?_) ?_
          · simp [gII, uI_n e]
          · simp only [gII, Nat.reduceEqDiff, if_false, if_true]
            rw [uI_n (by omega), uI_n (by omega)]
            simp
          · simp only [gII, if_true, uI_s]
            exact lat.1
    · have : Off [156, 157, 158, 159, 160, 161, 164, 165, 166] [55, 67] N (mW N R v1 v2 v3 v4 v5 v6 v7) := by
        unfold mW
        repeat first | apply Off.F _ (by decide) | apply Off.I _ (by decide)
        exact Off.rr _ _ _
      exact Off.tr (oN.mono (by decide) (by decide)) (this.mono (by decide) (by decide))
    · refine ⟨?_, ?_⟩
      · show dp_n N ≤ _
        rw [hN]; exact Nat.le_add_right _ _
      · show dp_z N ≤ _
        rw [hN]; exact Nat.le_add_right _ _
end TH
