/-! SECURITIES: tick, shut, interest -/
section SB
variable {xs : Nat → Int32} {xl d : Nat} {M : dp_M}
theorem uO_c {M M' : dp_M} (h1 : dp_I M' 216 = dp_I M 216) (h2 : dp_I M' 217 = dp_I M 217) (g : Nat) : ∀ R, uO M' g R = uO M g R
  | 0 => rfl
  | R + 1 => by rw [uO, uO, uO_c h1 h2 g R]; unfold usR; rw [h1, h2]
theorem s_tick (h : RelS M) (v1 : Int32) : ∃ v M1 M2, dp_den true xs xl (d + 2) 326 [.ref 0, .int v1] M = iR v M1 ∧ dp_den true xs xl (d + 2) 536 [.ref 114, .int v1] M1 = iR v M2 ∧ RelS M2 ∧ Off RelS_W (0 :: RelS_V) M M2 ∧ Cst 0 0 M M2 := by
  have h0 := h
  obtain ⟨G, R, hG, hR, a1, a2, a3, a4, a5, a6, a7, a8, a9, a10, a11, a12, a13, a14, a15⟩ := h
  have et : dp_I (dp_setI M 114 0 0) 114 120 = dp_I M 90 3 := by rw [gII, if_pos rfl, uI_n (by decide)]; exact a5
  rw [D_X11_tick_0_den, D_X11_tick_0_eq]
  simp only [D_X12_tick_0_den, D_X12_tick_0_eq, q_win, q_min, rb_bi, ibz, dp_w]
  by_cases g : (dp_I M 90 3).toInt64 ≤ v1.toInt64 ∧ v1.toInt64 ≤ (100000 : Int64)
  case neg =>
    refine ⟨0, M, dp_setI M 114 0 0, by rw [if_neg g], ?_, h0.same⟩
    rw [et, if_neg g]
  have et2 : dp_I (dp_setI (dp_setI M 90 3 v1) 114 0 0) 114 120 = dp_I M 90 3 := by rw [gII, if_pos rfl, uI_n (by decide), gII, if_neg (by decide)]; exact a5
  refine ⟨1, dp_setI M 90 3 v1, dp_setI (dp_setI (dp_setI M 90 3 v1) 114 0 0) 114 120 v1, by rw [if_pos g], by rw [et2, if_pos g], ?_, (((Off.rr _ _ M).I 90 (by decide) _ _).F 0 (by decide) _).F 120 (by decide) _, ⟨Nat.le_refl _, Nat.le_refl _⟩⟩
  have hq : qin v1 100001 := by
    have := qin_iff.mp a6
    have e1 : (100000 : Int64).toInt = 100000 := by decide
    rw [Int64.le_iff_toInt_le, Int64.le_iff_toInt_le, Int32.toInt_toInt64, Int32.toInt_toInt64, e1] at g
    rw [qin_iff]; omega
  have u := uO_c (M := M) (M' := dp_setI (dp_setI (dp_setI M 90 3 v1) 114 0 0) 114 120 v1) (by simp only [gII, Nat.reduceEqDiff, if_false]) (by simp only [gII, Nat.reduceEqDiff, if_false])
  refine ⟨G, R, hG, hR, by simp [gII, gIJ, gIR, gJI, gJJ, gJR, gRI, gRJ, glI, glJ, glR, uI]; exact a1, by simp [gII, gIJ, gIR, gJI, gJJ, gJR, gRI, gRJ, glI, glJ, glR, uI, a2], by simp [gII, gIJ, gIR, gJI, gJJ, gJR, gRI, gRJ, glI, glJ, glR, uI]; exact a3, by simp [gII, gIJ, gIR, gJI, gJJ, gJR, gRI, gRJ, glI, glJ, glR, uI, a4], by simp [gII, gIJ, gIR, gJI, gJJ, gJR, gRI, gRJ, glI, glJ, glR, uI], by simp only [gII, Nat.reduceEqDiff, if_false, if_true, uI_s]; exact hq, by simp only [gII, Nat.reduceEqDiff, if_false]; exact a7, by simp only [gII, Nat.reduceEqDiff, if_false]; exact a8, by simp only [gII, Nat.reduceEqDiff, if_false]; exact a9, ?_, ?_, ?_, ?_, ?_, ?_⟩
  · unfold SRw nO ndR ndF at a10 ⊢; simp only [gII, gJI, Nat.reduceEqDiff, if_false, u]; exact a10
  · simp only [gJI]; exact a11
  · simp only [gII, gJI, Nat.reduceEqDiff, if_false]; exact a12
  · unfold SOr at a13 ⊢; simp only [gII, Nat.reduceEqDiff, if_false]; exact a13
  · unfold SRv at a14 ⊢; simp only [gII, gJI, Nat.reduceEqDiff, if_false]; exact a14
  · unfold SLv SDs at a15 ⊢; simp only [gII, Nat.reduceEqDiff, if_false, if_true, uI_n (show (2 : Nat) ≠ 3 by decide)]; exact a15
/-- shut -/
theorem s_shut (h : RelS M) (v1 : Int32) : ∃ v M1 M2, dp_den true xs xl (d + 4) 324 [.ref 0, .int v1] M = iR v M1 ∧ dp_den true xs xl (d + 4) 534 [.ref 114, .int v1] M1 = iR v M2 ∧ RelS M2 ∧ Off RelS_W (0 :: RelS_V) M M2 ∧ Cst 0 0 M M2 := by
  have h0 := h
  obtain ⟨G, R, hG, hR, a1, a2, a3, a4, a5, a6, a7, a8, a9, a10, a11, a12, a13, a14, a15⟩ := h
  rw [D_X11_shut_0_den, D_X11_shut_0_eq]
  simp only [D_X12_shut_0_den, D_X12_shut_0_eq, sc_gua a1 hG, rb_bi, ibz, dp_w]
  have mm : ∀ N : dp_M, dp_I N 114 119 = nI G → dp_den true xs xl (d + 3) 515 [.ref 114, .int v1] N = iR (bI (wi v1 1 G)) N := fun N hN => sm_gua hN hG
  by_cases g1 : wi v1 1 G
  case neg =>
    refine ⟨0, M, dp_setI M 114 0 0, by rw [if_neg g1], ?_, h0.same⟩
    rw [mm _ (by simp [gII, gIJ, gIR, gJI, gJJ, gJR, gRI, gRJ, glI, glJ, glR, uI, a2]), rb_bi, ibz, if_neg g1]
  obtain ⟨g, hg1, hg2, rfl⟩ := wi_of (a := 1) (b := G) g1 (by omega)
  have hrow := a10 g hg1 hg2
  obtain ⟨h, u, n, b1, b2, b3, b4, b5, b6, b7, b8, b9, b10, b11, b12, b13, b14, b15, b16, b17, b18, b19, b20, b21, b22, b23, b24, b25, b26⟩ := hrow
  have cl6 := sc_get (xs := xs) (xl := xl) (d := d + 1) (M := M) (v2 := 6) (g := g) (k := 6) rfl (by omega) (by omega)
  by_cases g2 : dp_I M 208 g = 0
  case neg =>
    have g2' : dp_I M 208 g = 1 := b21.resolve_left g2
    refine ⟨0, M, dp_setI M 114 0 0, ?_, ?_, h0.same⟩
    · rw [if_pos g1, D_X8_closeOne_0_den, D_X8_closeOne_0_eq, cl6, rb_bl, b20, g2', if_pos (by decide), rb_bi, if_pos rfl]
    · rw [mm _ (by simp [gII, gIJ, gIR, gJI, gJJ, gJR, gRI, gRJ, glI, glJ, glR, uI, a2]), rb_bi, ibz, if_pos g1]
      simp only [nI_cl (show g < 2147483648 by omega), nI_o (show g < 41 by omega) (by omega), if_false, gII, Nat.reduceEqDiff]
      rw [if_neg g2]
  have hcl : dp_den true xs xl (d + 3) 188 [.ref 90, .int (nI g)] M = iR 1 (dp_setJ (dp_setJ M 95 (g * 16 + 6) 1) 95 (g * 16 + 15) (dp_I M 90 3).toInt64) := by
    rw [D_X8_closeOne_0_den, D_X8_closeOne_0_eq, cl6, rb_bl, b20, g2, if_neg (by decide), sc_set (v2 := 6) (g := g) (k := 6) rfl (by omega) (by omega), rb_bv, sc_set (v2 := 15) (g := g) (k := 15) rfl (by omega) (by omega), rb_bv]
    rfl
  obtain ⟨N, hN⟩ : ∃ N, N = dp_setI (dp_setI (dp_setI (dp_setJ (dp_setJ M 95 (g * 16 + 6) 1) 95 (g * 16 + 15) (dp_I M 90 3).toInt64) 114 0 0) 208 g 1) 209 g (dp_I M 90 3) := ⟨_, rfl⟩
  refine ⟨1, dp_setJ (dp_setJ M 95 (g * 16 + 6) 1) 95 (g * 16 + 15) (dp_I M 90 3).toInt64, N, ?_, ?_, ?_, ?_, ?_⟩
  · rw [if_pos g1, hcl, rb_bi, if_neg (by decide)]
  · rw [mm _ (by simp [gII, gIJ, gIR, gJI, gJJ, gJR, gRI, gRJ, glI, glJ, glR, uI, a2]), rb_bi, ibz, if_pos g1, hN]
    simp only [nI_cl (show g < 2147483648 by omega), nI_o (show g < 41 by omega) (by omega), if_false, gII, gIJ, Nat.reduceEqDiff, if_pos g2, if_true, uI_n (show (120 : Nat) ≠ 0 by decide), a5]
    rfl
  · have uu := uO_c (M := M) (M' := N) (by rw [hN]; simp only [gII, gIJ, Nat.reduceEqDiff, if_false]) (by rw [hN]; simp only [gII, gIJ, Nat.reduceEqDiff, if_false])
    have nn : ∀ x, nO N x R = nO M x R := fun x => by rw [hN]; unfold nO ndR ndF; simp only [gII, gIJ, gJI, gJJ, Nat.reduceEqDiff, if_false]
    refine ⟨G, R, hG, hR, by rw [hN]; simp [gII, gIJ, gIR, gJI, gJJ, gJR, gRI, gRJ, glI, glJ, glR, uI, a1], by rw [hN]; simp [gII, gIJ, gIR, gJI, gJJ, gJR, gRI, gRJ, glI, glJ, glR, uI, a2], by rw [hN]; simp [gII, gIJ, gIR, gJI, gJJ, gJR, gRI, gRJ, glI, glJ, glR, uI, a3], by rw [hN]; simp [gII, gIJ, gIR, gJI, gJJ, gJR, gRI, gRJ, glI, glJ, glR, uI, a4], by rw [hN]; simp [gII, gIJ, gIR, gJI, gJJ, gJR, gRI, gRJ, glI, glJ, glR, uI]; exact a5, by rw [hN]; simp only [gII, gIJ, Nat.reduceEqDiff, if_false]; exact a6, by rw [hN]; simp only [gII, gIJ, Nat.reduceEqDiff, if_false]; exact a7, by rw [hN]; simp only [gII, gIJ, Nat.reduceEqDiff, if_false]; exact a8, by rw [hN]; simp only [gII, gIJ, Nat.reduceEqDiff, if_false]; exact a9, fun x hx1 hx2 => ?_, fun x k hx hk => ?_, fun x hx => ?_, ?_, ?_, ?_⟩
    · have mI : ∀ k, k ≠ 114 → k ≠ 208 → k ≠ 209 → dp_I N k = dp_I M k := fun k k1 k2 k3 => by rw [hN, gII, if_neg k3, gII, if_neg k2, gII, if_neg k1]; rfl
      have mJ : ∀ k, k ≠ 95 → dp_J N k = dp_J M k := fun k k1 => by rw [hN, gJI, gJI, gJI, gJJ, if_neg k1, gJJ, if_neg k1]
      by_cases e : x = g
      · subst e
        have tb' : ∀ k, k < 15 → k ≠ 6 → dp_J N 95 (x * 16 + k) = dp_J M 95 (x * 16 + k) := fun k k1 k2 => by
          rw [hN, gJI, gJI, gJI, gJJ, if_pos rfl, uI_n (by omega), gJJ, if_pos rfl, uI_n (by omega)]
        have t6 : dp_J N 95 (x * 16 + 6) = 1 := by rw [hN, gJI, gJI, gJI, gJJ, if_pos rfl, uI_n (by omega), gJJ, if_pos rfl, uI_s]
        have t15 : dp_J N 95 (x * 16 + 15) = (dp_I M 90 3).toInt64 := by rw [hN, gJI, gJI, gJI, gJJ, if_pos rfl, uI_s]
        have s8 : dp_I N 208 x = 1 := by rw [hN, gII, if_neg (by decide), gII, if_pos rfl, uI_s]
        have s9 : dp_I N 209 x = dp_I M 90 3 := by rw [hN, gII, if_pos rfl, uI_s]
        refine ⟨h, u, n, b1, b2, b3, b4, ?_⟩
        simp only [tb' 0 (by omega) (by omega), tb' 1 (by omega) (by omega), tb' 2 (by omega) (by omega), tb' 5 (by omega) (by omega), t6, tb' 8 (by omega) (by omega), tb' 9 (by omega) (by omega), tb' 10 (by omega) (by omega), tb' 11 (by omega) (by omega), tb' 12 (by omega) (by omega), tb' 13 (by omega) (by omega), tb' 14 (by omega) (by omega), t15, s8, s9, mI 202 (by decide) (by decide) (by decide), mI 204 (by decide) (by decide) (by decide), mI 205 (by decide) (by decide) (by decide), mI 206 (by decide) (by decide) (by decide), mI 207 (by decide) (by decide) (by decide), mI 212 (by decide) (by decide) (by decide), mJ 203 (by decide), mJ 210 (by decide), mJ 211 (by decide), nn, uu]
        exact ⟨b5, b6, b7, b8, b9, b10, b11, b12, b13, b14, b15, b16, b17, b18, b19, by first | rfl | trivial, by first | exact Or.inr trivial | exact Or.inr rfl | trivial, by first | exact fun _ => ⟨rfl, a6⟩ | exact fun _ => ⟨trivial, a6⟩ | exact ⟨trivial, a6⟩, b23, b24, b25, b26⟩
      · have tb' : ∀ k, k < 16 → dp_J N 95 (x * 16 + k) = dp_J M 95 (x * 16 + k) := fun k k1 => by
          rw [hN, gJI, gJI, gJI, gJJ, if_pos rfl, uI_n (by omega), gJJ, if_pos rfl, uI_n (by omega)]
        have s8 : dp_I N 208 x = dp_I M 208 x := by rw [hN, gII, if_neg (by decide), gII, if_pos rfl, uI_n e]; rfl
        have s9 : dp_I N 209 x = dp_I M 209 x := by rw [hN, gII, if_pos rfl, uI_n e]; rfl
        have := a10 x hx1 hx2
        unfold SRw at this ⊢
        simp only [tb' 0 (by omega), tb' 1 (by omega), tb' 2 (by omega), tb' 5 (by omega), tb' 6 (by omega), tb' 8 (by omega), tb' 9 (by omega), tb' 10 (by omega), tb' 11 (by omega), tb' 12 (by omega), tb' 13 (by omega), tb' 14 (by omega), tb' 15 (by omega), s8, s9, mI 202 (by decide) (by decide) (by decide), mI 204 (by decide) (by decide) (by decide), mI 205 (by decide) (by decide) (by decide), mI 206 (by decide) (by decide) (by decide), mI 207 (by decide) (by decide) (by decide), mI 212 (by decide) (by decide) (by decide), mJ 203 (by decide), mJ 210 (by decide), mJ 211 (by decide), nn, uu]
        exact this
    · rw [hN]; simp only [gII, gIJ, gJI, gJJ, Nat.reduceEqDiff, if_false, if_true]
      rw [uI_n (by omega), uI_n (by omega)]; exact a11 x k hx hk
    · rw [hN]; simp only [gII, gIJ, gJI, gJJ, Nat.reduceEqDiff, if_false, if_true]
      rw [uI_n (by omega)]; exact a12 x hx
    · rw [hN]; unfold SOr at a13 ⊢; simp only [gII, gIJ, Nat.reduceEqDiff, if_false]; exact a13
    · rw [hN]; unfold SRv at a14 ⊢; simp only [gII, gIJ, gJI, gJJ, Nat.reduceEqDiff, if_false]; exact a14
    · unfold SLv SDs at a15 ⊢; rw [hN]; simp only [gII, gIJ, Nat.reduceEqDiff, if_false]; exact a15
  · rw [hN]; exact (((((Off.rr _ _ M).J 95 (by decide) _ _).J 95 (by decide) _ _).F 0 (by decide) _).I 208 (by decide) _ _).I 209 (by decide) _ _
  · rw [hN]; exact ⟨Nat.le_refl _, Nat.le_refl _⟩
end SB
