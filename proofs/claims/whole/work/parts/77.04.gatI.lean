-- needs: 75 76
/-! GATE: lift -/
section GE
variable {xs : Nat → Int32} {xl d : Nat} {M : dp_M}
theorem s_lift {n B t c : Nat} (h : PR M n B t c) (hc : c + 1 < 1073741824) (hn : 246 ≤ dp_n M) (v1 v2 v3 v4 : Int32) : ∃ k b M1 M2, dp_den true xs xl (d + 6) 611 [.ref 0, .int v1, .int v2, .int v3, .int v4, .ref 245] M = iR k M1 ∧ dp_den true xs xl (d + 6) 429 [.ref 114, .int v1, .int v2, .int v3, .int v4] M1 = iR b M2 ∧
    dp_I M2 114 0 = k ∧ (k = 0 → dp_J M2 245 0 = b.toInt64) ∧ PR M2 n B t (c + 1) ∧ Off (245 :: PR_W) (0 :: PR_V) M M2 ∧ Cst 1 6 M M2 := by
  have h0 := h
  obtain ⟨p1, p2, p3, p4, p5, p6, p7⟩ := h0.bx
  obtain ⟨h1, h2, h3, h4, h5, h6, h7⟩ := h
  obtain ⟨hc0, tt, sq, ht, ct0, mt0⟩ := h2
  obtain ⟨u1, u2, u3⟩ := h4
  have cw15 : ((0 : Int64) ≤ v4.toInt64 ∧ v4.toInt64 ≤ (65535 : Int64)) = qin v4 65536 := w_65535
  by_cases g : (qin v1 4 ∧ qin v2 n ∧ qin v3 10) ∧ qin v4 65536
  case neg =>
    obtain ⟨r1, r2, r3⟩ := h0.refused hn 1
    refine ⟨1, 0, dp_new M 0 0 6, _, wL_lift_x0 ?_, ?_, rfl, (fun e => by cases e), r1.up (by omega) hc, r2, r3⟩
    · rw [D_X11_lift_0_den, D_X11_lift_0_eq, pc_isBar p2 p1, rb_bi, ibz]
      simp only [q_win, rb_bi, ibz, q_nk hn, cw15]
      by_cases z1 : qin v1 4 ∧ qin v2 n ∧ qin v3 10
      · rw [if_pos z1, if_neg (fun q => g ⟨z1, q⟩)]
      · rw [if_neg z1]
    · rw [D_X12_lift_0_den, D_X12_lift_0_eq]
      simp only [q_min, rb_bi, ibz, q_ref, w_3, w_9, cw15]
      by_cases z1 : qin v1 4
      case neg => rw [if_neg z1]
      rw [if_pos z1, pm_box (n := n) (by rw [gIN (by omega)]; exact p3) p1, rb_bi, ibz]
      by_cases z2 : qin v2 n
      case neg => rw [if_neg z2]
      rw [if_pos z2]
      by_cases z3 : qin v3 10
      case neg => rw [if_neg z3]
      rw [if_pos z3, if_neg (fun q => g ⟨⟨z1, z2, z3⟩, q⟩)]
  obtain ⟨g0, g4⟩ := g
  have g0' := g0
  obtain ⟨g1, g2, g3⟩ := g0
  obtain ⟨s, hs, rfl⟩ := qin_of g1 (by omega)
  obtain ⟨x, hx, rfl⟩ := qin_of g2 (by omega)
  obtain ⟨k, hk, rfl⟩ := qin_of g3 (by omega)
  obtain ⟨a, ha⟩ : ∃ a, a = x * 40 + (s * 10 + k) := ⟨_, rfl⟩
  have ha' : a < 4000 := by omega
  obtain ⟨w, hw⟩ : ∃ w, w = dp_I M 48 a := ⟨_, rfl⟩
  have hw1 := u3 a
  rw [← hw] at hw1
  have e0 : (0 : Int32).toInt = 0 := by decide
  have e1 : (1 : Int32).toInt = 1 := by decide
  have wl : w ≤ 0 ↔ w = 0 := by rw [Int32.le_iff_toInt_le, ← Int32.toInt_inj, e0]; omega
  obtain ⟨bt, hbt⟩ : ∃ bt, bt = (v4 >>> (dp_I M 49 a &&& 31)) &&& (1 : Int32) := ⟨_, rfl⟩
  have c1 : dp_den true xs xl (d + 5) 285 [.ref 0, .int (nI s), .int (nI x), .int (nI k), .int v4] M = dp_bi (dp_den true xs xl (d + 4) 33 [.ref 37, .int (nI x), .int (nI s), .int (nI k), .int v4] M) (fun r6 M5 => iR r6 M5) := by
    rw [D_X11_lift_0_den, D_X11_lift_0_eq, pc_isBar p2 p1, rb_bi, ibz, if_pos g0']
    simp only [q_win, rb_bi, ibz, cw15, if_pos g4]
  have m1 : ∀ N : dp_M, dp_I N 114 3 = nI n → dp_I N 149 = dp_I M 48 → dp_I N 150 = dp_I M 49 → dp_den true xs xl (d + 6) 429 [.ref 114, .int (nI s), .int (nI x), .int (nI k), .int v4] N = if w = 0 ∨ bt = 0 then iR (-1) (dp_setI N 114 0 0) else (if w - 1 = 0 then dp_bv (dp_den true xs xl (d + 5) 422 [.ref 114, .int (nI x), .int 1] (dp_setI (dp_setI N 114 0 0) 149 a (w - 1))) (fun M20 => iR (dp_I M20 149 a) M20) else iR (w - 1) (dp_setI (dp_setI N 114 0 0) 149 a (w - 1))) := fun N q1 q2 q3 => by
    rw [D_X12_lift_0_den, D_X12_lift_0_eq]
    simp only [q_min, rb_bi, ibz, w_3, w_9, cw15, if_pos g1, if_pos g3, if_pos g4]
    rw [pm_box q1 p1, rb_bi, ibz, if_pos g2]
    simp only [dp_w, t_cell, ← ha, nI_cl (show a < 2147483648 by omega), nI_o ha' (by omega), if_false, gII, Nat.reduceEqDiff, if_true, q2, q3, ← hw, ← hbt, uI_s]
    by_cases z1 : w = 0
    · rw [if_pos z1, if_pos (Or.inl z1)]
    · rw [if_neg z1]
      by_cases z2 : bt = 0
      · rw [if_pos z2, if_pos (Or.inr z2)]
      · rw [if_neg z2, if_neg (show ¬ (w = 0 ∨ bt = 0) from fun q => q.elim z1 z2)]
  by_cases gz : w = 0 ∨ bt = 0
  · obtain ⟨r1, r2, r3⟩ := h0.looked ((-1 : Int32).toInt64)
    refine ⟨0, -1, _, dp_setI (dp_setJ M 245 0 (-1 : Int32).toInt64) 114 0 0, wL_lift_ok (M1 := M) (x := -1) ?_, ?_, by simp [gII, uI], fun _ => by simp [gJI, gJJ, uI], r1.up (by omega) hc, r2, r3⟩
    · rw [c1, D_X1_takeBar_0_den, D_X1_takeBar_0_eq, gc_cell, rb_bi, ← ha]
      simp only [nI_cl (show a < 2147483648 by omega), nI_o ha' (by omega), if_false, ← hw, ← hbt, wl]
      by_cases z1 : w = 0
      · rw [if_pos z1, rb_bi]
      · rw [if_neg z1, if_pos (gz.resolve_left z1), rb_bi]
    · rw [m1 _ (by rw [gIJ]; exact p3) (by rw [gIJ]; exact u1) (by rw [gIJ]; exact u2), if_pos gz]
  have gz1 : ¬ w = 0 := fun q => gz (Or.inl q)
  have gz2 : ¬ bt = 0 := fun q => gz (Or.inr q)
  have wp : 1 ≤ w.toInt := by rw [← Int32.toInt_inj, e0] at gz1; omega
  have ws : (w - 1).toInt = w.toInt - 1 := by
    rw [Int32.toInt_sub, e1]
    apply Int.bmod_eq_of_le <;> omega
  -- the class
  obtain ⟨C0, hC0⟩ : ∃ C0, C0 = if w - 1 = 0 then tlC (dp_setI M 48 a (w - 1)) tt (10 * nI x + 1) else dp_setI M 48 a (w - 1) := ⟨_, rfl⟩
  have c0 : ∀ k, k ≠ 37 → k ≠ 50 → k ≠ 48 → dp_I C0 k = dp_I M k := fun k q1 q2 q3 => by
    rw [hC0]; split
    · unfold tlC; rw [gII, if_neg q1, gII, if_neg q2, gII, if_neg q3]
    · rw [gII, if_neg q3]
  have c48 : dp_I C0 48 = uI (dp_I M 48) a (w - 1) := by
    rw [hC0]; split
    · unfold tlC; rw [gII, if_neg (by decide), gII, if_neg (by decide), gII, if_pos rfl]
    · rw [gII, if_pos rfl]
  have c37 : dp_I C0 37 2 = dp_I M 37 2 := by
    rw [hC0]; split
    · unfold tlC; rw [gII, if_pos rfl, uI_n (by decide), gII, if_neg (by decide), gII, if_neg (by decide)]
    · rw [gII, if_neg (by decide)]
  have oC0 : Off [37, 48, 50] [] M C0 := by
    rw [hC0]; split
    · unfold tlC; exact (((Off.rr _ _ M).I 48 (by decide) _ _).I 50 (by decide) _ _).I 37 (by decide) _ _
    · exact (Off.rr _ _ M).I 48 (by decide) _ _
  have zC0 : Cst 0 0 M C0 := by
    rw [hC0]; split
    · exact ⟨Nat.le_refl _, Nat.le_refl _⟩
    · exact ⟨Nat.le_refl _, Nat.le_refl _⟩
  have ct1 : CT (dp_setI M 48 a (w - 1)) tt sq := CT_e ct0 (by rw [gII, if_neg (by decide)]) (by rw [gII, if_neg (by decide)])
  have ctC : CT C0 (if w - 1 = 0 then tt + 1 else tt) (if w - 1 = 0 then uI sq tt (10 * nI x + 1) else sq) := by
    rw [hC0]
    by_cases z : w - 1 = 0
    · simp only [if_pos z]; exact (gc_tell (xs := xs) (xl := xl) (d := d) ct1 (by omega) (nI x) 1).2
    · simp only [if_neg z]; exact ct1
  have hcl : dp_den true xs xl (d + 5) 285 [.ref 0, .int (nI s), .int (nI x), .int (nI k), .int v4] M = iR (w - 1) C0 := by
    rw [c1, D_X1_takeBar_0_den, D_X1_takeBar_0_eq, gc_cell, rb_bi, ← ha]
    simp only [nI_cl (show a < 2147483648 by omega), nI_o ha' (by omega), if_false, ← hw, ← hbt, wl, dp_w, gII, if_true, uI_s]
    rw [if_neg gz1, if_neg gz2]
    by_cases z : w - 1 = 0
    · rw [if_pos z, (gc_tell (xs := xs) (xl := xl) (d := d + 2) ct1 (by omega) (nI x) 1).1, rb_bv]
      rw [if_pos z] at hC0
      rw [← hC0, c48, uI_s, rb_bi]
    · rw [if_neg z]
      rw [if_neg z] at hC0
      rw [← hC0, rb_bi]
  -- the model
  obtain ⟨N, hN⟩ : ∃ N, N = dp_setI (dp_setI (dp_setJ C0 245 0 (w - 1).toInt64) 114 0 0) 149 a (w - 1) := ⟨_, rfl⟩
  have nI0 : ∀ k, k ≠ 37 → k ≠ 50 → k ≠ 48 → k ≠ 114 → k ≠ 149 → dp_I N k = dp_I M k := fun k q1 q2 q3 q5 q6 => by
    rw [hN]; simp only [gII, gIJ, if_neg q5, if_neg q6, c0 k q1 q2 q3]
  have n114 : ∀ i, i ≠ 0 → dp_I N 114 i = dp_I M 114 i := fun i hi => by
    rw [hN]; simp only [gII, gIJ, Nat.reduceEqDiff, if_false, if_true, uI_n hi, c0 114 (by decide) (by decide) (by decide)]
  have mtN : MT N tt sq := MT_e mt0 (n114 52 (by decide)) (nI0 154 (by decide) (by decide) (by decide) (by decide) (by decide))
  obtain ⟨M2, n1, n2, n3, n4⟩ : ∃ M2, dp_den true xs xl (d + 6) 429 [.ref 114, .int (nI s), .int (nI x), .int (nI k), .int v4] (dp_setJ C0 245 0 (w - 1).toInt64) = iR (w - 1) M2 ∧ MT M2 (if w - 1 = 0 then tt + 1 else tt) (if w - 1 = 0 then uI sq tt (10 * nI x + 1) else sq) ∧ Off [154] [52] N M2 ∧ Cst 0 0 N M2 := by
    have pre := m1 (dp_setJ C0 245 0 (w - 1).toInt64) (by rw [gIJ, c0 114 (by decide) (by decide) (by decide)]; exact p3) (by rw [gIJ, c0 149 (by decide) (by decide) (by decide)]; exact u1) (by rw [gIJ, c0 150 (by decide) (by decide) (by decide)]; exact u2)
    rw [if_neg gz, ← hN] at pre
    by_cases z : w - 1 = 0
    · obtain ⟨M2, q1, q2, q3, q4⟩ := gm_tell (xs := xs) (xl := xl) (d := d + 4) mtN (by omega) (nI x) 1
      refine ⟨M2, ?_, by simp only [if_pos z]; exact q2, q3, q4⟩
      rw [pre, if_pos z, q1, rb_bv, (q3.1 149 (by decide) (by decide) (by decide)).1, hN]
      simp only [gII, gIJ, Nat.reduceEqDiff, if_false, if_true, uI_s]
    · refine ⟨N, by rw [pre, if_neg z], by simp only [if_neg z]; exact mtN, Off.rr _ _ _, Cst.r _⟩
  have oN : Off [245, 37, 48, 50, 149] [0] M N := by
    rw [hN]
    exact (((oC0.mono (by decide) (by decide) : Off [245, 37, 48, 50, 149] [0] M C0).J 245 (by decide) 0 _).F 0 (by decide) _).I 149 (by decide) _ _
  have oK : Off [245, 37, 48, 50, 149, 154] [0, 52] M M2 := (oN.mono (by decide) (by decide)).tr (n3.mono (by decide) (by decide))
  have e2 : ∀ k, k ≠ 154 → k < 246 → k ≠ 114 → dp_I M2 k = dp_I N k := fun k q1 q2 q3 => (n3.1 k q2 (by simp only [List.mem_cons, List.not_mem_nil, or_false]; exact q1) q3).1
  have r48 : dp_I M2 48 = uI (dp_I M 48) a (w - 1) := by rw [e2 48 (by decide) (by decide) (by decide), hN]; simp only [gII, gIJ, Nat.reduceEqDiff, if_false, c48]
  have r149 : dp_I M2 149 = uI (dp_I M 149) a (w - 1) := by rw [e2 149 (by decide) (by decide) (by decide), hN]; simp only [gII, gIJ, Nat.reduceEqDiff, if_false, if_true, c0 149 (by decide) (by decide) (by decide)]
  have r37 : dp_I M2 37 = dp_I C0 37 := by rw [e2 37 (by decide) (by decide) (by decide), hN]; simp only [gII, gIJ, Nat.reduceEqDiff, if_false]
  have r50 : dp_I M2 50 = dp_I C0 50 := by rw [e2 50 (by decide) (by decide) (by decide), hN]; simp only [gII, gIJ, Nat.reduceEqDiff, if_false]
  refine ⟨0, w - 1, _, M2, wL_lift_ok hcl, n1, ?_, fun _ => ?_, ⟨PHY_off h1 oK (by decide) (by decide), ⟨hc, _, _, ?_, CT_e ctC (by rw [r37]) r50, n2⟩, ?_, ⟨by rw [r48, r149, u1], ?_, fun kk => ?_⟩, GLd_off h5 oK (by decide), GRl_off h6 oK (by decide), GRu_off h7 oK (by decide)⟩, oK.mono (by decide) (by decide), ?_⟩
  · rw [(n3.2.1 0 (by decide)).1, hN]; simp [gII, uI]
  · rw [(n3.1 245 (by decide) (by decide) (by decide)).2.1, hN]; simp [gJI, gJJ, uI]
  · split <;> omega
  · exact GGd_37 h3 (by rw [r37]; exact c37) (fun k hk => by
      simp only [List.mem_cons, List.not_mem_nil, or_false] at hk
      rw [e2 k (by omega) (by omega) (by omega)]
      exact nI0 k (by omega) (by omega) (by omega) (by omega) (by omega)) (fun i hi => (oK.2.1 i (by simp only [List.mem_cons, List.not_mem_nil, or_false] at hi ⊢; omega)).1)
  · rw [(oK.1 150 (by decide) (by decide) (by decide)).1, (oK.1 49 (by decide) (by decide) (by decide)).1]; exact u2
  · rw [r48]
    by_cases z : kk = a
    · subst z; rw [uI_s, ws]; exact ⟨by omega, by omega⟩
    · rw [uI_n z]; have := u3 kk; omega
  · have q1 : Cst 0 0 C0 N := by rw [hN]; exact ⟨Nat.le_refl _, Nat.le_refl _⟩
    exact ((zC0.tr0 q1).tr0 n4).mono (by omega) (by omega)
end GE
