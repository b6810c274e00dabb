/-! SECURITIES: security -/
def sv (M : dp_M) (g R : Nat) (k : Nat) : Int64 := if k = 0 then (dp_I M 202 g).toInt64 else if k = 1 then dp_J M 203 g else if k = 2 then nO M g R else if k = 3 then fr M g R else if k = 4 then mc M g R else if k = 5 then (nI (uO M g R)).toInt64 else if k = 6 then (dp_I M 208 g).toInt64 else if k = 7 then (if nO M g R - dp_J M 203 g < 0 then 0 else nO M g R - dp_J M 203 g) else dp_J M 210 g
section SF
variable {xs : Nat → Int32} {xl d : Nat} {M : dp_M}
theorem s_security (h : RelS M) (hn : 246 ≤ dp_n M) (v1 v2 : Int32) : ∃ k b M1 M2, dp_den true xs xl (d + 6) 635 [.ref 0, .int v1, .int v2, .ref 245] M = iR k M1 ∧ dp_den true xs xl (d + 6) 538 [.ref 114, .int v1, .int v2] M1 = lR b M2 ∧
    dp_I M2 114 0 = k ∧ (k = 0 → dp_J M2 245 0 = b) ∧ RelS M2 ∧ Off (245 :: RelS_W) (0 :: RelS_V) M M2 ∧ Cst 1 6 M M2 := by
  have h0 := h
  obtain ⟨G, R, hG, hR, a1, a2, a3, a4, a5, a6, a7, a8, a9, a10, a11, a12, a13, a14, a15⟩ := h
  by_cases g : wi v1 1 G ∧ qin v2 9
  case neg =>
    refine ⟨1, 0, dp_new M 0 0 6, _, wL_security_x2 ?_, ?_, rfl, (fun e => by cases e), h0.refused hn 1⟩
    · rw [D_X11_security_0_den, D_X11_security_0_eq]
      simp only [sc_gua a1 hG, q_win, w_8, rb_bi, ibz, q_nk hn]
      by_cases z : wi v1 1 G
      · rw [if_pos z, if_neg (fun w => g ⟨z, w⟩)]
      · rw [if_neg z]
    · rw [D_X12_security_0_den, D_X12_security_0_eq, sm_gua (G := G) (by rw [gIN (by omega)]; exact a2) hG]
      simp only [q_min, w_8, q_ref, rb_bi, ibz]
      by_cases z : wi v1 1 G
      · rw [if_pos z, if_neg (fun w => g ⟨z, w⟩)]; rfl
      · rw [if_neg z]; rfl
  obtain ⟨g1, g2⟩ := g
  obtain ⟨g, hg1, hg2, rfl⟩ := wi_of (a := 1) (b := G) g1 (by omega)
  obtain ⟨k, hk, rfl⟩ := qin_of g2 (by omega)
  have hrow := a10 g hg1 hg2
  have hk' : k = 0 ∨ k = 1 ∨ k = 2 ∨ k = 3 ∨ k = 4 ∨ k = 5 ∨ k = 6 ∨ k = 7 ∨ k = 8 := by omega
  have hcl : dp_den true xs xl (d + 5) 330 [.ref 0, .int (nI g), .int (nI k)] M = lR (sv M g R k) M := by
    obtain ⟨h, u, n, b1, b2, b3, b4, b5, b6, b7, b8, b9, b10, b11, b12, b13, b14, b15, b16, b17, b18, b19, b20, b21, b22, b23, b24, b25, b26⟩ := a10 g hg1 hg2
    have gt := fun (k : Nat) (v : Int32) (hv : v = nI k) (hk : k < 16) => sc_get (xs := xs) (xl := xl) (d := d + 2) (M := M) (v2 := v) (g := g) (k := k) hv (by omega) hk
    have key : dp_den true xs xl (d + 4) 196 [.ref 90, .int (nI g), .int (nI k)] M = lR (sv M g R k) M := by
      rw [D_X8_fact_0_den, D_X8_fact_0_eq]
      unfold sv
      rcases hk' with rfl | rfl | rfl | rfl | rfl | rfl | rfl | rfl | rfl
      · rw [if_neg (by decide), if_neg (by decide), if_neg (by decide), if_neg (by decide), if_neg (by decide), gt 0 (nI 0) rfl (by omega), rb_bl, b6, b5]; rfl
      · rw [if_neg (by decide), if_neg (by decide), if_neg (by decide), if_neg (by decide), if_neg (by decide), gt 1 (nI 1) rfl (by omega), rb_bl, b11]; rfl
      · rw [if_neg (by decide), if_neg (by decide), if_neg (by decide), if_neg (by decide), if_neg (by decide), gt 2 (nI 2) rfl (by omega), rb_bl, b25]; rfl
      · rw [if_pos (by rfl), sc_free (by omega) hrow, rb_bl]; rfl
      · rw [if_neg (by decide), if_pos (by rfl), sc_may hR (by omega) hrow a14, rb_bl]; rfl
      · rw [if_neg (by decide), if_neg (by decide), if_pos (by rfl), gt 5 (nI 5) rfl (by omega), rb_bl, b26]; rfl
      · rw [if_neg (by decide), if_neg (by decide), if_neg (by decide), if_pos (by rfl), gt 6 (nI 6) rfl (by omega), rb_bl, b20]; rfl
      · rw [if_neg (by decide), if_neg (by decide), if_neg (by decide), if_neg (by decide), if_pos (by rfl), gt 2 2 rfl (by omega), rb_bl, gt 1 1 rfl (by omega), rb_bl, b25, b11]; rfl
      · rw [if_neg (by decide), if_neg (by decide), if_neg (by decide), if_neg (by decide), if_neg (by decide), gt 8 (nI 8) rfl (by omega), rb_bl, b23]; rfl
    rw [D_X11_security_0_den, D_X11_security_0_eq]
    simp only [sc_gua a1 hG, q_win, w_8, rb_bi, ibz, if_pos g1, if_pos g2, key, rb_bl]
  generalize hW : sv M g R k = W at hcl
  obtain ⟨l1', l2, l3⟩ := h0.looked W
  obtain ⟨N, hN⟩ : ∃ N, N = dp_setI (dp_setJ M 245 0 W) 114 0 0 := ⟨_, rfl⟩
  refine ⟨0, W, _, dp_setI (dp_setJ M 245 0 W) 114 0 0, wL_security_ok hcl, ?_, by simp [gII, uI], fun _ => by simp [gJI, gJJ, uI], l1', l2, l3⟩
  rw [← hN] at l1' ⊢
  have eI : ∀ k, k ≠ 114 → dp_I N k = dp_I M k := fun k hk => by rw [hN, gII, if_neg hk, gIJ]
  have eJ : ∀ k, k ≠ 245 → dp_J N k = dp_J M k := fun k hk => by rw [hN, gJI, gJJ, if_neg hk]
  obtain ⟨G', R', hG', hR', c1, c2, c3, c4, c5, c6, c7, c8, c9, c10, c11, c12, c13, c14, c15⟩ := l1'
  have e1 : G' = G := by
    have : dp_I N 114 119 = nI G := by rw [hN, gII, if_pos rfl, uI_n (by decide), gIJ]; exact a2
    rw [c2, nI_eq (by omega) (by omega)] at this; exact this
  have e2 : R' = R := by
    have : dp_I N 114 133 = nI R := by rw [hN, gII, if_pos rfl, uI_n (by decide), gIJ]; exact a4
    rw [c4, nI_eq (by omega) (by omega)] at this; exact this
  subst e1 e2
  have rN := c10 g hg1 hg2
  have eu := uO_c (M := M) (M' := N) (eI 216 (by decide)) (eI 217 (by decide)) g R'
  have en : nO N g R' = nO M g R' := by unfold nO ndR ndF; rw [eI 204 (by decide), eI 205 (by decide), eI 216 (by decide), eI 217 (by decide), eJ 218 (by decide)]
  have ef : fr N g R' = fr M g R' := by unfold fr; rw [en, eJ 203 (by decide)]
  have em : mc N g R' = mc M g R' := by unfold mc; rw [ef, eu, eI 208 (by decide), eI 206 (by decide), eI 204 (by decide), eI 205 (by decide)]
  obtain ⟨h, u, n, b1, b2, b3, b4, b5, b6, b7, b8, b9, b10, b11, b12, b13, b14, b15, b16, b17, b18, b19, b20, b21, -⟩ := c10 g hg1 hg2
  rw [D_X12_security_0_den, D_X12_security_0_eq, sm_gua (G := G') (by rw [gIJ]; exact a2) hG]
  simp only [q_min, w_8, rb_bi, ibz, if_pos g1, if_pos g2, dp_w]
  rw [← hN]
  simp only [sm_nO hR (show g < 41 by omega) b2 b3 b4 b7 b9 c4 c14, rb_bl, nI_cl (show g < 2147483648 by omega), nI_o (show g < 41 by omega) (by omega), if_false, sm_free hR (show g < 41 by omega) rN.m c4 c14, sm_may hR (show g < 41 by omega) rN.m c4 c14, sm_uO hR c4 c14, rb_bi, en, ef, em, eu, eI 202 (by decide), eI 208 (by decide), eJ 203 (by decide), eJ 210 (by decide)]
  rw [← hW]
  unfold sv
  rcases hk' with rfl | rfl | rfl | rfl | rfl | rfl | rfl | rfl | rfl
  · rfl
  · rfl
  · rfl
  · rfl
  · rfl
  · rfl
  · rw [eI 208 (by decide)] at b21
    rw [if_neg (by decide), if_neg (by decide), if_neg (by decide), if_neg (by decide), if_neg (by decide), if_neg (by decide), if_pos (by rfl)]
    rcases b21 with q | q <;> rw [q] <;> rfl
  · rw [if_neg (by decide), if_neg (by decide), if_neg (by decide), if_neg (by decide), if_neg (by decide), if_neg (by decide), if_neg (by decide), if_pos (by rfl)]
    simp only [lg_cmp_le]
    by_cases z : nO M g R' - dp_J M 203 g ≤ 0
    · rw [if_pos z]
      show lR 0 N = lR (if nO M g R' - dp_J M 203 g < 0 then 0 else nO M g R' - dp_J M 203 g) N
      by_cases y : nO M g R' - dp_J M 203 g < 0
      · rw [if_pos y]
      · rw [if_neg y, Int64.le_antisymm z (Int64.not_lt.mp y)]
    · rw [if_neg z]
      show lR (nO M g R' - dp_J M 203 g) N = lR (if nO M g R' - dp_J M 203 g < 0 then 0 else nO M g R' - dp_J M 203 g) N
      rw [if_neg (fun y => z (Int64.le_of_lt y))]
  · rfl
end SF
