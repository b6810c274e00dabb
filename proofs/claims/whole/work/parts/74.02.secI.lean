/-! SECURITIES: interest -/
def lst (M : dp_M) (g : Nat) : Int32 := if dp_I M 208 g = 0 then dp_I M 114 120 else dp_I M 209 g
def lrow (M : dp_M) (g : Nat) : Int64 := if dp_I M 212 g < lst M g then dp_J M 203 g * (lst M g - dp_I M 212 g).toInt64 * (dp_I M 207 g).toInt64 / 3650000 else 0
section SC
variable {xs : Nat → Int32} {xl d : Nat} {M : dp_M}
theorem sub64 {a b : Int32} (ha : qin a 100001) (hb : qin b 100001) : (a - b).toInt64 = a.toInt64 - b.toInt64 := by
  have h1 := qin_iff.mp ha
  have h2 := qin_iff.mp hb
  rw [← Int64.toInt_inj, Int32.toInt_toInt64, q_subJ (by rw [Int32.toInt_toInt64, Int32.toInt_toInt64]; omega) (by rw [Int32.toInt_toInt64, Int32.toInt_toInt64]; omega), Int32.toInt_toInt64, Int32.toInt_toInt64, Int32.toInt_sub]
  apply Int.bmod_eq_of_le <;> omega
/-- of a guarantee, what the interest needs -/
def SRx (M : dp_M) (g : Nat) : Prop := dp_J M 95 (g * 16 + 1) = dp_J M 203 g ∧ dp_J M 95 (g * 16 + 12) = (dp_I M 207 g).toInt64 ∧ dp_J M 95 (g * 16 + 13) = (dp_I M 212 g).toInt64 ∧ qin (dp_I M 212 g) 100001 ∧ dp_J M 95 (g * 16 + 6) = (dp_I M 208 g).toInt64 ∧ (dp_I M 208 g = 0 ∨ dp_I M 208 g = 1) ∧ (dp_I M 208 g = 1 → dp_J M 95 (g * 16 + 15) = (dp_I M 209 g).toInt64 ∧ qin (dp_I M 209 g) 100001)
theorem SRw.x {R g : Nat} (h : SRw M R g) : SRx M g := by
  obtain ⟨h, u, n, b1, b2, b3, b4, b5, b6, b7, b8, b9, b10, b11, b12, b13, b14, b15, b16, b17, b18, b19, b20, b21, b22, b23, b24, b25, b26⟩ := h
  exact ⟨b11, b16, b18, b19, b20, b21, b22⟩
theorem sc_row {g : Nat} (hg : g < 41) (h : SRx M g) (a5 : dp_I M 114 120 = dp_I M 90 3) (a6 : qin (dp_I M 90 3) 100001) : dp_den true xs xl (d + 2) 189 [.ref 90, .int (nI g)] M = lR (lrow M g) M := by
  obtain ⟨b11, b16, b18, b19, b20, b21, b22⟩ := h
  have gt := fun (k : Nat) (v : Int32) (hv : v = nI k) (hk : k < 16) => sc_get (xs := xs) (xl := xl) (d := d) (M := M) (v2 := v) (g := g) (k := k) hv hg hk
  have hl : qin (lst M g) 100001 := by
    unfold lst
    by_cases z : dp_I M 208 g = 0
    · rw [if_pos z, a5]; exact a6
    · rw [if_neg z]; exact (b22 (b21.resolve_left z)).2
  have fin : D_X8_latestRow_27 xs xl (d + 1) (nI g) (lst M g).toInt64 M = lR (lrow M g) M := by
    rw [D_X8_latestRow_27_eq, gt 13 13 rfl (by omega), rb_bl, b18]
    simp only [dp_w]
    rw [gt 1 1 rfl (by omega), rb_bl, gt 12 12 rfl (by omega), rb_bl, b11, b16]
    unfold lrow
    have h1 := qin_iff.mp hl
    have h2 := qin_iff.mp b19
    have e0 : (0 : Int64).toInt = 0 := by decide
    rw [← sub64 hl b19]
    have e1 : (lst M g - dp_I M 212 g).toInt = (lst M g).toInt - (dp_I M 212 g).toInt := by
      rw [Int32.toInt_sub]
      apply Int.bmod_eq_of_le <;> omega
    by_cases z : dp_I M 212 g < lst M g
    · rw [if_pos z]
      rw [Int32.lt_iff_toInt_lt] at z
      rw [if_neg (by rw [Int64.lt_iff_toInt_lt, e0, Int32.toInt_toInt64, e1]; omega)]
      rw [Int64.mul_assoc, Int64.mul_comm (dp_I M 207 g).toInt64, ← Int64.mul_assoc]
    · rw [if_neg z]
      rw [Int32.lt_iff_toInt_lt] at z
      have ez : (if (lst M g - dp_I M 212 g).toInt64 < 0 then (0 : Int64) else (lst M g - dp_I M 212 g).toInt64) = 0 := by
        by_cases y : (lst M g - dp_I M 212 g).toInt64 < 0
        · rw [if_pos y]
        · rw [if_neg y]
          rw [Int64.lt_iff_toInt_lt, e0, Int32.toInt_toInt64, e1] at y
          rw [← Int64.toInt_inj, e0, Int32.toInt_toInt64, e1]; omega
      rw [ez, Int64.mul_zero]; rfl
  rw [D_X8_latestRow_0_den, D_X8_latestRow_0_eq, gt 6 6 rfl (by omega), rb_bl, b20]
  unfold lst at fin
  by_cases z : dp_I M 208 g = 0
  · rw [if_pos z, a5] at fin
    rw [z, if_neg (by decide)]; exact fin
  · have z1 := b21.resolve_left z
    rw [if_neg z] at fin
    rw [z1, if_pos (by decide), gt 15 15 rfl (by omega), rb_bl, (b22 z1).1]; exact fin
theorem sm_row {g : Nat} (hg : g < 41) : dp_den true xs xl (d + 1) 531 [.ref 114, .int (nI g)] M = lR (lrow M g) M := by
  have fin : D_X12_earnedNow_22 xs xl d (nI g) (lst M g) M = lR (lrow M g) M := by
    rw [D_X12_earnedNow_22_eq]
    simp only [nI_cl (show g < 2147483648 by omega), nI_o (show g < 41 by omega) (by omega), if_false]
    unfold lrow
    by_cases z : dp_I M 212 g < lst M g
    · rw [if_pos z, if_pos z]
    · rw [if_neg z, if_neg z]
  rw [D_X12_earnedNow_0_den, D_X12_earnedNow_0_eq]
  simp only [nI_cl (show g < 2147483648 by omega), nI_o (show g < 41 by omega) (by omega), if_false]
  unfold lst at fin
  by_cases z : dp_I M 208 g = 0
  · rw [if_pos z] at fin; rw [if_pos z]; exact fin
  · rw [if_neg z] at fin; rw [if_neg z]; exact fin
/-- interest -/
theorem s_interest (h : RelS M) (hn : 246 ≤ dp_n M) (v1 : Int32) : ∃ k b M1 M2, dp_den true xs xl (d + 5) 634 [.ref 0, .int v1, .ref 245] M = iR k M1 ∧ dp_den true xs xl (d + 5) 537 [.ref 114, .int v1] M1 = lR b M2 ∧
    dp_I M2 114 0 = k ∧ (k = 0 → dp_J M2 245 0 = b) ∧ RelS M2 ∧ Off (245 :: RelS_W) (0 :: RelS_V) M M2 ∧ Cst 1 6 M M2 := by
  have h0 := h
  obtain ⟨G, R, hG, hR, a1, a2, a3, a4, a5, a6, a7, a8, a9, a10, a11, a12, a13, a14, a15⟩ := h
  by_cases g1 : wi v1 1 G
  case neg =>
    refine ⟨1, 0, dp_new M 0 0 6, _, wL_interest_x0 ?_, ?_, rfl, (fun e => by cases e), h0.refused hn 1⟩
    · rw [D_X11_interest_0_den, D_X11_interest_0_eq, sc_gua a1 hG, rb_bi, ibz, if_neg g1, q_nk hn]
    · rw [D_X12_interest_0_den, D_X12_interest_0_eq, sm_gua (G := G) (by rw [gIN (by omega)]; exact a2) hG, rb_bi, ibz, if_neg g1, q_ref, rb_bi]; rfl
  obtain ⟨g, hg1, hg2, rfl⟩ := wi_of (a := 1) (b := G) g1 (by omega)
  have hrow := a10 g hg1 hg2
  have e14 : dp_J M 95 (g * 16 + 14) = dp_J M 211 g := by
    obtain ⟨h, u, n, b1, b2, b3, b4, b5, b6, b7, b8, b9, b10, b11, b12, b13, b14, b15, b16, b17, b18, b19, b20, b21, b22, b23, b24, b25, b26⟩ := hrow
    exact b24
  have hcl : dp_den true xs xl (d + 4) 327 [.ref 0, .int (nI g)] M = lR (dp_J M 211 g + lrow M g) M := by
    rw [D_X11_interest_0_den, D_X11_interest_0_eq, sc_gua a1 hG, rb_bi, ibz, if_pos g1, D_X8_interestOf_0_den, D_X8_interestOf_0_eq, sc_get (v2 := 14) (g := g) (k := 14) rfl (by omega) (by omega), rb_bl, sc_row (by omega) hrow.x a5 a6, rb_bl, rb_bl, e14]
  refine ⟨0, dp_J M 211 g + lrow M g, _, dp_setI (dp_setJ M 245 0 (dp_J M 211 g + lrow M g)) 114 0 0, wL_interest_ok hcl, ?_, by simp [gII, uI], fun _ => by simp [gJI, gJJ, uI], h0.looked _⟩
  rw [D_X12_interest_0_den, D_X12_interest_0_eq, sm_gua (G := G) (by rw [gIJ]; exact a2) hG, rb_bi, ibz, if_pos g1]
  simp only [dp_w, nI_cl (show g < 2147483648 by omega), nI_o (show g < 41 by omega) (by omega), if_false]
  rw [sm_row (by omega), rb_bl]
  have el : lrow (dp_setI (dp_setJ M 245 0 (dp_J M 211 g + lrow M g)) 114 0 0) g = lrow M g := by
    unfold lrow lst
    simp only [gII, gIJ, gJI, gJJ, Nat.reduceEqDiff, if_false, if_true, uI_n (show (120 : Nat) ≠ 0 by decide)]
  rw [el]
  simp only [gJI, gJJ, Nat.reduceEqDiff, if_false]
end SC
