/-! SECURITIES: list, class and model -/
section SK1
variable {xs : Nat → Int32} {xl d : Nat} {M : dp_M}
theorem sm_list1 {G j : Nat} {v1 v2 : Int32} (hG : G ≤ 40) (a2 : dp_I M 114 119 = nI G) (hq : ∀ k, k < G → wi (dp_I M 213 k) 1 G) (hj : j < G) (h1 : hp M v1 j = true) (h2 : v2 = nI (ct (hp M v1) j)) : D_X12_list_10 xs xl d v1 v2 v2 0 M = iR (dp_I M 213 j) M := by
  have key := lpf (F := fun k => D_X12_list_10 xs xl d v1 v2 (v2 - nI (ct (hp M v1) k)) (nI k) M) (a := 0) (j := j) (r := (.inl (some (.int (dp_I M 213 j))), M)) (Nat.zero_le _) (fun k _ hk hr => sm_step hG a2 (by omega) (hq k (by omega)) (fun q => by
    have h3 : ct (hp M v1) (k + 1) ≤ ct (hp M v1) j := ct_nm2 j (by omega)
    rw [ct_s2 q.1] at h3
    have hc := ct_le (hp M v1) j
    have := q.2
    rw [h2, nI_eq (by omega) (by omega)] at this
    omega) hr) ?_
  · (try dsimp only at key)
    rw [show v2 - nI (ct (hp M v1) 0) = v2 from Int32.sub_zero _] at key
    exact key
  · (try dsimp only)
    obtain ⟨g, g1, g2, eg⟩ := wi_of (a := 1) (b := G) (hq j hj) (by omega)
    have hg : dp_I M 202 g = v1 := by unfold hp at h1; rw [eg, nI_cl (by omega), decide_eq_true_eq] at h1; exact h1
    rw [D_X12_list_10_eq, a2, if_neg (nI_nge hj (by omega))]
    simp only [nI_cl (show j < 2147483648 by omega), nI_o (show j < 40 by omega) (by omega), if_false, eg, nI_cl (show g < 2147483648 by omega), nI_o (show g < 41 by omega) (by omega), D_X12_list_40_eq, if_neg (show ¬ (1 : Int32) = 0 by decide), sub_nI, if_pos hg, if_pos h2]
theorem sm_list0 {G : Nat} {v1 v2 : Int32} (hG : G ≤ 40) (a2 : dp_I M 114 119 = nI G) (hq : ∀ k, k < G → wi (dp_I M 213 k) 1 G) (h : ∀ k, k < G → hp M v1 k = true → v2 ≠ nI (ct (hp M v1) k)) : D_X12_list_10 xs xl d v1 v2 v2 0 M = iR (-1) M := by
  have key := lpf (F := fun k => D_X12_list_10 xs xl d v1 v2 (v2 - nI (ct (hp M v1) k)) (nI k) M) (a := 0) (j := G) (r := (.inl (some (.int (-1))), M)) (Nat.zero_le _) (fun k _ hk hr => sm_step hG a2 hk (hq k hk) (fun q => h k hk q.1 q.2) hr) ?_
  · (try dsimp only at key)
    rw [show v2 - nI (ct (hp M v1) 0) = v2 from Int32.sub_zero _] at key
    exact key
  · (try dsimp only)
    rw [D_X12_list_10_eq, a2, if_pos (nI_lle (Nat.le_refl _) (by omega))]
theorem s_list (h : RelS M) (v1 v2 : Int32) : ∃ v M1 M2, dp_den true xs xl (d + 3) 329 [.ref 0, .int v1, .int v2] M = iR v M1 ∧ dp_den true xs xl (d + 3) 518 [.ref 114, .int v1, .int v2] M1 = iR v M2 ∧ RelS M2 ∧ Off RelS_W (0 :: RelS_V) M M2 ∧ Cst 0 0 M M2 := by
  have h0 := h
  obtain ⟨G, R, hG, hR, a1, a2, a3, a4, a5, a6, a7, a8, a9, a10, a11, a12, a13, a14, a15⟩ := h
  obtain ⟨s1, s2, s3⟩ := a13
  have hN : ∀ v, hp (dp_setI M 114 0 0) v = hp M v := fun v => by funext k; unfold hp; simp only [gII, Nat.reduceEqDiff, if_false]
  have eN : dp_I (dp_setI M 114 0 0) 213 = dp_I M 213 := by simp only [gII, Nat.reduceEqDiff, if_false]
  have hm : dp_den true xs xl (d + 3) 518 [.ref 114, .int v1, .int v2] M = D_X12_list_10 xs xl (d + 2) v1 v2 v2 0 (dp_setI M 114 0 0) := by
    rw [D_X12_list_0_den, D_X12_list_0_eq]; rfl
  have a2' : dp_I (dp_setI M 114 0 0) 114 119 = nI G := by simp [gII, gIJ, gIR, gJI, gJJ, gJR, gRI, gRJ, glI, glJ, glR, uI, a2]
  have none' : (∀ k, k < G → hp M v1 k = true → v2 ≠ nI (ct (hp M v1) k)) → dp_den true xs xl (d + 3) 518 [.ref 114, .int v1, .int v2] M = iR (-1) (dp_setI M 114 0 0) := fun hx => by
    rw [hm]
    exact sm_list0 hG a2' (fun k hk => by rw [eN]; exact s1 k hk) (fun k hk q => by rw [hN] at q ⊢; exact hx k hk q)
  have hh : ∀ N : dp_M, dp_den true xs xl (d + 2) 321 [.int v1] N = iR (bI (qin v1 8)) N := fun N => by
    rw [D_X11_isHolder_0_den, D_X11_isHolder_0_eq]; exact q_cr (by decide)
  by_cases g1 : qin v1 8
  case neg =>
    refine ⟨-1, M, dp_setI M 114 0 0, ?_, none' (fun k hk q => ?_), h0.same⟩
    · rw [D_X11_list_0_den, D_X11_list_0_eq, hh, rb_bi, ibz, if_neg g1]
    · exfalso
      obtain ⟨g, g2, g3, eg⟩ := wi_of (a := 1) (b := G) (s1 k hk) (by omega)
      unfold hp at q
      rw [eg, nI_cl (by omega), decide_eq_true_eq] at q
      obtain ⟨h, u, n, b1, b2, b3, b4, b5, -⟩ := a10 g g2 g3
      rw [b5] at q
      exact g1 (by rw [← q]; exact qin_nI b1 (by omega))
  obtain ⟨h, hh8, rfl⟩ := qin_of g1 (by omega)
  obtain ⟨t1, t2⟩ := s3 h hh8
  have hc := ct_le (hp M (nI h)) G
  have t1' : dp_I M 91 h = nI (ct (hp M (nI h)) G) := t1
  have hcl : dp_den true xs xl (d + 3) 329 [.ref 0, .int (nI h), .int v2] M = if qin v2 (ct (hp M (nI h)) G) then dp_bi (dp_den true xs xl (d + 2) 186 [.ref 90, .int (nI h), .int v2] M) (fun r M5 => iR r M5) else iR (-1) M := by
    rw [D_X11_list_0_den, D_X11_list_0_eq, hh, rb_bi, ibz, if_pos g1]
    simp only [nI_cl (show h < 2147483648 by omega), nI_o (show h < 8 by omega) (by omega), if_false, t1', q_win, rb_bi, ibz, q_w (show ct (hp M (nI h)) G < 2147483648 by omega)]
  by_cases g2 : qin v2 (ct (hp M (nI h)) G)
  case neg =>
    refine ⟨-1, M, dp_setI M 114 0 0, by rw [hcl, if_neg g2], none' (fun k hk q e => ?_), h0.same⟩
    have h3 : ct (hp M (nI h)) (k + 1) ≤ ct (hp M (nI h)) G := ct_nm2 G (by omega)
    rw [ct_s2 q] at h3
    exact g2 (by rw [e]; exact qin_nI (by omega) (by omega))
  obtain ⟨i, hi, rfl⟩ := qin_of g2 (by omega)
  obtain ⟨j, j1, j2, j3⟩ := ct_fd G i hi
  have ej : dp_I M 94 (h * 40 + i) = dp_I M 213 j := by
    have := t2 j j1 (by unfold hp at j2; exact decide_eq_true_eq.mp j2)
    have e2 : ct (fun k => decide (dp_I M 202 (dp_I M 213 k).toNatClampNeg = nI h)) j = i := j3
    rw [e2] at this; exact this
  refine ⟨dp_I M 213 j, M, dp_setI M 114 0 0, ?_, ?_, h0.same⟩
  · rw [hcl, if_pos g2, D_X8_inTurn_0_den, D_X8_inTurn_0_eq]
    have e40 : nI h * (40 : Int32) + nI i = nI (h * 40 + i) := by rw [show (40 : Int32) = nI 40 from rfl, pk_mul, nI_add]
    simp only [e40, nI_cl (show h * 40 + i < 2147483648 by omega), nI_o (show h * 40 + i < 320 by omega) (by omega), if_false, ej, rb_bi]
  · rw [hm, sm_list1 hG a2' (fun k hk => by rw [eN]; exact s1 k hk) j1 (by rw [hN]; exact j2) (by rw [hN, j3]), eN]
end SK1
