-- needs: 75 76
/-! GATE: bar, lift, withdraw -/
section GD
variable {xs : Nat → Int32} {xl d : Nat} {M : dp_M}
theorem CT_e {M M' : dp_M} {t : Nat} {sq : Nat → Int32} (h : CT M t sq) (e1 : dp_I M' 37 3 = dp_I M 37 3) (e2 : dp_I M' 50 = dp_I M 50) : CT M' t sq := by
  unfold CT at h ⊢; rw [e1, e2]; exact h
theorem MT_e {M M' : dp_M} {t : Nat} {sq : Nat → Int32} (h : MT M t sq) (e1 : dp_I M' 114 52 = dp_I M 114 52) (e2 : dp_I M' 154 = dp_I M 154) : MT M' t sq := by
  unfold MT at h ⊢; rw [e1, e2]; exact h
theorem GGd_37 {M M' : dp_M} {n : Nat} (h : GGd M n) (e1 : dp_I M' 37 2 = dp_I M 37 2) (e : ∀ k ∈ [42, 44, 45, 46, 47, 147, 148, 233, 241], dp_I M' k = dp_I M k) (f : ∀ i ∈ [44, 160], dp_I M' 114 i = dp_I M 114 i) : GGd M' n := by
  unfold GGd at h ⊢
  rw [e1, e 42 (by decide), e 44 (by decide), e 45 (by decide), e 46 (by decide), e 47 (by decide), e 147 (by decide), e 148 (by decide), e 233 (by decide), e 241 (by decide), f 44 (by decide), f 160 (by decide)]; exact h
theorem gc_cell {x s k : Nat} : dp_den true xs xl (d + 1) 31 [.int (nI x), .int (nI s), .int (nI k)] M = iR (nI (x * 40 + (s * 10 + k))) M := by
  rw [D_X1_cell_0_den, D_X1_cell_0_eq]
  rw [show (4 : Int32) = nI 4 from rfl, show (10 : Int32) = nI 10 from rfl, pk_mul, nI_add, pk_mul, nI_add, show (x * 4 + s) * 10 + k = x * 40 + (s * 10 + k) by omega]
theorem t_cell {x s k : Nat} : (40 : Int32) * nI x + 10 * nI s + nI k = nI (x * 40 + (s * 10 + k)) := by
  rw [show (40 : Int32) = nI 40 from rfl, show (10 : Int32) = nI 10 from rfl, pk_mul, pk_mul, nI_add, nI_add]
  congr 1; omega
theorem pc_isBar {n : Nat} (p2 : dp_I M 1 2 = nI n) (p1 : n ≤ 100) (v1 v2 v3 : Int32) : dp_den true xs xl (d + 3) 283 [.ref 0, .int v1, .int v2, .int v3] M = iR (bI (qin v1 4 ∧ qin v2 n ∧ qin v3 10)) M := by
  rw [D_X11_isBar_0_den, D_X11_isBar_0_eq]
  simp only [q_win, rb_bi, ibz, w_3, w_9]
  by_cases z1 : qin v1 4
  case neg => rw [if_neg z1, bI_f (fun q => z1 q.1)]
  rw [if_pos z1, pc_box p2 p1, rb_bi, ibz]
  by_cases z2 : qin v2 n
  case neg => rw [if_neg z2, bI_f (fun q => z2 q.2.1)]
  rw [if_pos z2]
  by_cases z3 : qin v3 10
  · rw [if_pos z3, bI_t ⟨z1, z2, z3⟩]
  · rw [if_neg z3, bI_f (fun q => z3 q.2.2)]
theorem s_bar {n B t c : Nat} (h : PR M n B t c) (hc : c + 1 < 1073741824) (hn : 246 ≤ dp_n M) (v1 v2 v3 v4 : Int32) : ∃ k b M1 M2, dp_den true xs xl (d + 6) 610 [.ref 0, .int v1, .int v2, .int v3, .int v4, .ref 245] M = iR k M1 ∧ dp_den true xs xl (d + 6) 428 [.ref 114, .int v1, .int v2, .int v3, .int v4] M1 = iR b M2 ∧
    dp_I M2 114 0 = k ∧ (k = 0 → dp_J M2 245 0 = b.toInt64) ∧ PR M2 n B t (c + 1) ∧ Off (245 :: PR_W) (0 :: PR_V) M M2 ∧ Cst 1 6 M M2 := by
  have h0 := h
  obtain ⟨p1, p2, p3, p4, p5, p6, p7⟩ := h0.bx
  obtain ⟨h1, h2, h3, h4, h5, h6, h7⟩ := h
  obtain ⟨hc0, tt, sq, ht, ct0, mt0⟩ := h2
  obtain ⟨u1, u2, u3⟩ := h4
  have cw15 : ((0 : Int64) ≤ v4.toInt64 ∧ v4.toInt64 ≤ (15 : Int64)) = qin v4 16 := w_15
  by_cases g : (qin v1 4 ∧ qin v2 n ∧ qin v3 10) ∧ qin v4 16
  case neg =>
    obtain ⟨r1, r2, r3⟩ := h0.refused hn 1
    refine ⟨1, 0, dp_new M 0 0 6, _, wL_bar_x0 ?_, ?_, rfl, (fun e => by cases e), r1.up (by omega) hc, r2, r3⟩
    · rw [D_X11_bar_0_den, D_X11_bar_0_eq, pc_isBar p2 p1, rb_bi, ibz]
      simp only [q_win, rb_bi, ibz, q_nk hn, cw15]
      by_cases z1 : qin v1 4 ∧ qin v2 n ∧ qin v3 10
      · rw [if_pos z1, if_neg (fun q => g ⟨z1, q⟩)]
      · rw [if_neg z1]
    · rw [D_X12_bar_0_den, D_X12_bar_0_eq]
      simp only [q_min, rb_bi, ibz, q_ref, w_3, w_9, cw15]
      by_cases z1 : qin v1 4
      case neg => rw [if_neg z1]
      rw [if_pos z1, pm_box (n := n) (by rw [gIN (by omega)]; exact p3) p1, rb_bi, ibz]
      by_cases z2 : qin v2 n
      case neg => rw [if_neg z2]
      rw [if_pos z2]
      by_cases z3 : qin v3 10
      case neg => rw [if_neg z3]
      rw [if_pos z3, if_neg (fun q => g ⟨⟨z1, z2, z3⟩, q⟩)]
  obtain ⟨g0, g4⟩ := g
  have g0' := g0
  obtain ⟨g1, g2, g3⟩ := g0
  obtain ⟨s, hs, rfl⟩ := qin_of g1 (by omega)
  obtain ⟨x, hx, rfl⟩ := qin_of g2 (by omega)
  obtain ⟨k, hk, rfl⟩ := qin_of g3 (by omega)
  obtain ⟨a, ha⟩ : ∃ a, a = x * 40 + (s * 10 + k) := ⟨_, rfl⟩
  have ha' : a < 4000 := by omega
  obtain ⟨w, hw⟩ : ∃ w, w = dp_I M 48 a := ⟨_, rfl⟩
  have hw1 := u3 a
  rw [← hw] at hw1
  have e0 : (0 : Int32).toInt = 0 := by decide
  have e1 : (1 : Int32).toInt = 1 := by decide
  have ws : (w + 1).toInt = w.toInt + 1 := by
    rw [Int32.toInt_add, e1]
    apply Int.bmod_eq_of_le <;> omega
  have wz : w = 0 ↔ w + 1 = 1 := by
    rw [← Int32.toInt_inj, ← Int32.toInt_inj, ws, e0, e1]; omega
  -- the class
  obtain ⟨C0, hC0⟩ : ∃ C0, C0 = if w = 0 then tlC M tt (10 * nI x + 0) else M := ⟨_, rfl⟩
  obtain ⟨C, hC⟩ : ∃ C, C = dp_setI (dp_setI C0 48 a (w + 1)) 49 a v4 := ⟨_, rfl⟩
  have c0 : ∀ k, k ≠ 37 → k ≠ 50 → dp_I C0 k = dp_I M k := fun k q1 q2 => by
    rw [hC0]; split
    · unfold tlC; rw [gII, if_neg q1, gII, if_neg q2]
    · rfl
  have c37 : dp_I C0 37 2 = dp_I M 37 2 := by
    rw [hC0]; split
    · unfold tlC; rw [gII, if_pos rfl, uI_n (by decide), gII, if_neg (by decide)]
    · rfl
  have oC0 : Off [37, 50] [] M C0 := by
    rw [hC0]; split
    · unfold tlC; exact ((Off.rr _ _ M).I 50 (by decide) _ _).I 37 (by decide) _ _
    · exact Off.rr _ _ _
  have zC0 : Cst 0 0 M C0 := by
    rw [hC0]; split
    · exact ⟨Nat.le_refl _, Nat.le_refl _⟩
    · exact Cst.r _
  have ctC : CT C0 (if w = 0 then tt + 1 else tt) (if w = 0 then uI sq tt (10 * nI x + 0) else sq) := by
    rw [hC0]
    by_cases z : w = 0
    · simp only [if_pos z]; exact (gc_tell (xs := xs) (xl := xl) (d := d) ct0 (by omega) (nI x) 0).2
    · simp only [if_neg z]; exact ct0
  have t24 : D_X1_addBar_24 xs xl (d + 3) (nI x) (nI s) (nI k) v4 (nI a) C0 = iR (w + 1) C := by
    rw [D_X1_addBar_24_eq]
    simp only [nI_cl (show a < 2147483648 by omega), nI_o ha' (by omega), if_false, dp_w, gII, Nat.reduceEqDiff, if_true, uI_s, c0 48 (by decide) (by decide), ← hw, hC]
  have hcl : dp_den true xs xl (d + 5) 284 [.ref 0, .int (nI s), .int (nI x), .int (nI k), .int v4] M = iR (w + 1) C := by
    rw [D_X11_bar_0_den, D_X11_bar_0_eq, pc_isBar p2 p1, rb_bi, ibz, if_pos g0']
    simp only [q_win, rb_bi, ibz, cw15, if_pos g4]
    rw [D_X1_addBar_0_den, D_X1_addBar_0_eq, gc_cell, rb_bi, ← ha]
    simp only [nI_cl (show a < 2147483648 by omega), nI_o ha' (by omega), if_false, ← hw]
    by_cases z : w = 0
    · rw [if_pos z, (gc_tell (xs := xs) (xl := xl) (d := d + 2) ct0 (by omega) (nI x) 0).1, rb_bv]
      rw [if_pos z] at hC0
      rw [← hC0, t24, rb_bi]
    · rw [if_neg z]
      rw [if_neg z] at hC0
      rw [← hC0, t24, rb_bi]
  -- the model
  obtain ⟨N, hN⟩ : ∃ N, N = dp_setI (dp_setI (dp_setI (dp_setJ C 245 0 (w + 1).toInt64) 114 0 0) 149 a (w + 1)) 150 a v4 := ⟨_, rfl⟩
  have cI : ∀ k, k ≠ 37 → k ≠ 50 → k ≠ 48 → k ≠ 49 → dp_I C k = dp_I M k := fun k q1 q2 q3 q4 => by
    rw [hC, gII, if_neg q4, gII, if_neg q3, c0 k q1 q2]
  have nI0 : ∀ k, k ≠ 37 → k ≠ 50 → k ≠ 48 → k ≠ 49 → k ≠ 114 → k ≠ 149 → k ≠ 150 → dp_I N k = dp_I M k := fun k q1 q2 q3 q4 q5 q6 q7 => by
    rw [hN]; simp only [gII, gIJ, if_neg q5, if_neg q6, if_neg q7, cI k q1 q2 q3 q4]
  have n114 : ∀ i, i ≠ 0 → dp_I N 114 i = dp_I M 114 i := fun i hi => by
    rw [hN]; simp only [gII, gIJ, Nat.reduceEqDiff, if_false, if_true, uI_n hi, cI 114 (by decide) (by decide) (by decide) (by decide)]
  have mtN : MT N tt sq := MT_e mt0 (n114 52 (by decide)) (nI0 154 (by decide) (by decide) (by decide) (by decide) (by decide) (by decide) (by decide))
  have h149 : dp_I (dp_setJ C 245 0 (w + 1).toInt64) 149 = dp_I M 48 := by rw [gIJ, cI 149 (by decide) (by decide) (by decide) (by decide)]; exact u1
  have mb : dp_I (dp_setJ C 245 0 (w + 1).toInt64) 114 3 = nI n := by rw [gIJ, cI 114 (by decide) (by decide) (by decide) (by decide)]; exact p3
  obtain ⟨M2, n1, n2, n3, n4⟩ : ∃ M2, dp_den true xs xl (d + 6) 428 [.ref 114, .int (nI s), .int (nI x), .int (nI k), .int v4] (dp_setJ C 245 0 (w + 1).toInt64) = iR (w + 1) M2 ∧ MT M2 (if w = 0 then tt + 1 else tt) (if w = 0 then uI sq tt (10 * nI x + 0) else sq) ∧ Off [154] [52] N M2 ∧ Cst 0 0 N M2 := by
    have pre : dp_den true xs xl (d + 6) 428 [.ref 114, .int (nI s), .int (nI x), .int (nI k), .int v4] (dp_setJ C 245 0 (w + 1).toInt64) = if w = 0 then dp_bv (dp_den true xs xl (d + 5) 422 [.ref 114, .int (nI x), .int 0] N) (fun M21 => iR (dp_I M21 149 a) M21) else iR (w + 1) N := by
      rw [D_X12_bar_0_den, D_X12_bar_0_eq]
      simp only [q_min, rb_bi, ibz, w_3, w_9, cw15, if_pos g1, if_pos g3, if_pos g4]
      rw [pm_box mb p1, rb_bi, ibz, if_pos g2]
      simp only [dp_w, t_cell, ← ha, nI_cl (show a < 2147483648 by omega), nI_o ha' (by omega), if_false, gII, Nat.reduceEqDiff, if_true, h149, ← hw, uI_s, ← hN]
      have nt : dp_I N 149 a = w + 1 := by rw [hN]; simp only [gII, Nat.reduceEqDiff, if_false, if_true, uI_s]
      simp only [nt, ← wz]
    by_cases z : w = 0
    · obtain ⟨M2, q1, q2, q3, q4⟩ := gm_tell (xs := xs) (xl := xl) (d := d + 4) mtN (by omega) (nI x) 0
      refine ⟨M2, ?_, by simp only [if_pos z]; exact q2, q3, q4⟩
      rw [pre, if_pos z, q1, rb_bv, (q3.1 149 (by decide) (by decide) (by decide)).1, hN]
      simp only [gII, gIJ, Nat.reduceEqDiff, if_false, if_true, uI_s]
    · refine ⟨N, by rw [pre, if_neg z], by simp only [if_neg z]; exact mtN, Off.rr _ _ _, Cst.r _⟩
  have oN : Off [245, 37, 48, 49, 50, 149, 150] [0] M N := by
    rw [hN, hC]
    exact ((((((oC0.mono (by decide) (by decide) : Off [245, 37, 48, 49, 50, 149, 150] [0] M C0).I 48 (by decide) _ _).I 49 (by decide) _ _).J 245 (by decide) 0 _).F 0 (by decide) _).I 149 (by decide) _ _).I 150 (by decide) _ _
  have oK : Off [245, 37, 48, 49, 50, 149, 150, 154] [0, 52] M M2 := (oN.mono (by decide) (by decide)).tr (n3.mono (by decide) (by decide))
  have e2 : ∀ k, k ≠ 154 → k < 246 → k ≠ 114 → dp_I M2 k = dp_I N k := fun k q1 q2 q3 => (n3.1 k q2 (by simp only [List.mem_cons, List.not_mem_nil, or_false]; exact q1) q3).1
  have r48 : dp_I M2 48 = uI (dp_I M 48) a (w + 1) := by rw [e2 48 (by decide) (by decide) (by decide), hN, hC]; simp only [gII, gIJ, Nat.reduceEqDiff, if_false, if_true, c0 48 (by decide) (by decide)]
  have r49 : dp_I M2 49 = uI (dp_I M 49) a v4 := by rw [e2 49 (by decide) (by decide) (by decide), hN, hC]; simp only [gII, gIJ, Nat.reduceEqDiff, if_false, if_true, c0 49 (by decide) (by decide)]
  have r149 : dp_I M2 149 = uI (dp_I M 149) a (w + 1) := by rw [e2 149 (by decide) (by decide) (by decide), hN]; simp only [gII, gIJ, Nat.reduceEqDiff, if_false, if_true, cI 149 (by decide) (by decide) (by decide) (by decide)]
  have r150 : dp_I M2 150 = uI (dp_I M 150) a v4 := by rw [e2 150 (by decide) (by decide) (by decide), hN]; simp only [gII, gIJ, Nat.reduceEqDiff, if_false, if_true, cI 150 (by decide) (by decide) (by decide) (by decide)]
  have r37 : dp_I M2 37 = dp_I C0 37 := by rw [e2 37 (by decide) (by decide) (by decide), hN, hC]; simp only [gII, gIJ, Nat.reduceEqDiff, if_false]
  have r50 : dp_I M2 50 = dp_I C0 50 := by rw [e2 50 (by decide) (by decide) (by decide), hN, hC]; simp only [gII, gIJ, Nat.reduceEqDiff, if_false]
  refine ⟨0, w + 1, _, M2, wL_bar_ok hcl, n1, ?_, fun _ => ?_, ⟨PHY_off h1 oK (by decide) (by decide), ⟨hc, _, _, ?_, CT_e ctC (by rw [r37]) r50, n2⟩, ?_, ⟨by rw [r48, r149, u1], by rw [r49, r150, u2], fun kk => ?_⟩, GLd_off h5 oK (by decide), GRl_off h6 oK (by decide), GRu_off h7 oK (by decide)⟩, oK.mono (by decide) (by decide), ?_⟩
  · rw [(n3.2.1 0 (by decide)).1, hN]; simp [gII, uI]
  · rw [(n3.1 245 (by decide) (by decide) (by decide)).2.1, hN]; simp [gJI, gJJ, uI]
  · split <;> omega
  · exact GGd_37 h3 (by rw [r37]; exact c37) (fun k hk => by
      simp only [List.mem_cons, List.not_mem_nil, or_false] at hk
      rw [e2 k (by omega) (by omega) (by omega)]
      exact nI0 k (by omega) (by omega) (by omega) (by omega) (by omega) (by omega) (by omega)) (fun i hi => (oK.2.1 i (by simp only [List.mem_cons, List.not_mem_nil, or_false] at hi ⊢; omega)).1)
  · rw [r48]
    by_cases z : kk = a
    · subst z; rw [uI_s, ws]; exact ⟨by omega, by omega⟩
    · rw [uI_n z]; have := u3 kk; omega
  · have q1 : Cst 0 0 C0 N := by rw [hN, hC]; exact ⟨Nat.le_refl _, Nat.le_refl _⟩
    exact ((zC0.tr0 q1).tr0 n4).mono (by omega) (by omega)
end GD
