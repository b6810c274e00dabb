-- needs: 71 72 73 74
/-! RATES: print, side by side -/
section Rbf
variable {xs : Nat → Int32} {xl d : Nat} {M : dp_M}
def Pt_S : List Nat := 245 :: 68 :: 69 :: 74 :: 190 :: Rt_B
def Pt_T : List Nat := [0, 79, 80, 81, 90, 91, 92, 97, 104]
theorem s_print (h : RelR M) (ht : RelT M) (v1 : Int32) : ∃ k b M1 M2, dp_den true xs xl (d + 11) 624 [.ref 0, .int v1, .ref 245] M = iR k M1 ∧ dp_den true xs xl (d + 11) 502 [.ref 114, .int v1] M1 = iR b M2 ∧
    dp_I M2 114 0 = k ∧ (k = 0 → dp_J M2 245 0 = b.toInt64) ∧ RelR M2 ∧ RelT M2 ∧ Off Pt_S Pt_T M M2 ∧ Cst 1 6 M M2 := by
  have h0 := h
  have ht0 := ht
  obtain ⟨hn, ⟨TL, hT⟩, hr, -⟩ := h
  obtain ⟨R, K, hR, hK, a1, a2, -⟩ := ht
  have mm : ∀ (N : dp_M) (e : Nat), dp_I N 114 55 = nI R → dp_den true xs xl (e + 1) 451 [.ref 114, .int v1] N = iR (bI (wi v1 1 R)) N := fun N e hN => tm_meas hN hR
  have oX : Off Nd_S Nd_T M (dp_new M 0 0 6) := (Off.rr _ _ M).N hn 0 0 6
  have x2 : dp_I (dp_new M 0 0 6) 114 55 = nI R := by rw [gIN (by omega)]; exact a2
  rcases c_rateOf (xs := xs) (xl := xl) (d := d + 6) (v1 := v1) a1 hR hr with ⟨c1, c2⟩ | ⟨r, q, l, L, rfl, r1, r2, c1, c2, c3, c4, c5, c6, c7⟩
  · have oo : Off Nd_S Nd_T M (dp_setI (dp_new M 0 0 6) 114 0 1) := oX.F 0 (by decide) _
    obtain ⟨q1, q2⟩ := Nd_off h0 ht0 oo
    refine ⟨1, 0, _, _, wL_print_x0 (M1 := dp_new M 0 0 6) ?_, (?_ : _ = iR 0 (dp_setI (dp_new M 0 0 6) 114 0 1)), by rw [gII, if_pos rfl, uI_s], fun e => (by cases e), q1, q2, oo.mono (by decide) (by decide), ⟨Nat.le_refl _, Nat.le_refl _⟩⟩
    · rw [D_X11_print_0_den, D_X11_print_0_eq, c1, rb_bo, q_nk hn]
    · rw [D_X12_print_0_den, D_X12_print_0_eq, mm _ _ x2, rb_bi, ibz]
      by_cases z : wi v1 1 R
      · obtain ⟨r, rfl, r1, r2, e172⟩ := c2 z
        rw [if_pos z, mm _ _ x2, rb_bi, ibz, if_pos z, D_X12_print_25_eq, nI_cl (by omega), if_neg (by rw [nI_o (show r < 301 by omega) (by omega)]; exact id), gIN (by omega), e172, if_pos rfl, q_ref, rb_bi]
      · rw [if_neg z, q_ref, rb_bi]
  have z : wi (nI r) 1 R := wi_mk (by omega) (by omega) (by omega)
  have kd := rdR_ok c7
  have kn := rdR_nm c7
  obtain ⟨n, s, hp, hs⟩ := rdR_pr c5 c7
  obtain ⟨N, f, p1, p2⟩ := c_print (xs := xs) (xl := xl) (d := d + 3) c2 kd kn hp (by omega)
  obtain ⟨p3, p4, p5, p6, p7, p8, p9⟩ := p2
  obtain ⟨M1, hM1⟩ : ∃ M1, M1 = dp_setJ N 245 0 (nI s.length).toInt64 := ⟨_, rfl⟩
  obtain ⟨N1, hN1⟩ : ∃ N1, N1 = dp_setI M1 114 0 0 := ⟨_, rfl⟩
  have oM : Off Pt_S Pt_T M M1 := by rw [hM1]; exact (p7.mono (by decide) (by decide)).J 245 (by decide) _ _
  have oN : Off Pt_S Pt_T M N1 := by rw [hN1]; exact oM.F 0 (by decide) _
  have e172 : dp_I N1 172 = dp_I M 172 := (oN.1 172 (by decide) (by decide) (by decide)).1
  have e171 : dp_I N1 171 = dp_I M 171 := (oN.1 171 (by decide) (by decide) (by decide)).1
  obtain ⟨N2, g1, g2, g3, g4, g5⟩ := m_rr (xs := xs) (xl := xl) (d := d) (M := N1) (r := r) (L := L) (l := l) (by omega) (by rw [e172]; exact c3) c4 c5 (fun i hi => by rw [e171]; exact c6 i hi) (by rw [e171]; exact c7)
  obtain ⟨M2, f2, u1, u2⟩ := m_print (xs := xs) (xl := xl) (d := d + 6) (v1 := nI r) g4 kd kn hp (by omega)
  obtain ⟨-, -, u3, u4, u5, u6⟩ := u2
  have o2 : Off Pt_S Pt_T N1 M2 := (g2.mono (by decide) (by decide)).tr (u5.mono (by decide) (by decide))
  have oo : Off Pt_S Pt_T M M2 := oN.tr o2
  have o12 : Off (186 :: 190 :: Rt_B) (104 :: [79, 80, 81, 90, 91, 92, 97]) N1 M2 := (g2.mono (by decide) (by decide)).tr (u5.mono (by decide) (by decide))
  have k68 : dp_I M2 68 = dp_I N 68 := by rw [(o12.1 68 (by decide) (by decide) (by decide)).1, hN1, gII, if_neg (by decide), hM1, gIJ]
  have k69 : dp_I M2 69 = dp_I N 69 := by rw [(o12.1 69 (by decide) (by decide) (by decide)).1, hN1, gII, if_neg (by decide), hM1, gIJ]
  refine ⟨0, nI s.length, M1, M2, by rw [hM1]; exact wL_print_ok (by rw [D_X11_print_0_den, D_X11_print_0_eq, c1, rb_bo', p1, rb_bi]), ?_, ?_, fun _ => ?_, ?_, RelT_off ht0 oo (by decide) (by decide), oo, ?_⟩
  · have e1 : dp_I M1 114 55 = nI R := by rw [(oM.2.1 _ (by decide)).1]; exact a2
    have e2 : dp_I M1 172 r = nI L := by rw [(oM.1 172 (by decide) (by decide) (by decide)).1]; exact c3
    rw [D_X12_print_0_den, D_X12_print_0_eq, mm _ _ e1, rb_bi, ibz, if_pos z, mm _ _ e1, rb_bi, ibz, if_pos z, D_X12_print_25_eq, nI_cl (by omega), if_neg (by rw [nI_o (show r < 301 by omega) (by omega)]; exact id), e2, if_neg (show ¬ nI L = (0 : Int32) from nI_n0' (by omega) (by omega)), dpw, ← hN1, g1, rb_bv, dpw, dpw, if_neg (by decide), dpw]
    exact u1
  · rw [(o12.2.1 0 (by decide)).1, hN1, gII, if_pos rfl, uI_s]
  · rw [(o12.1 245 (by decide) (by decide) (by decide)).2.1, hN1, hM1]
    rfl
  · refine ⟨by have := oo.2.2.2.2; omega, ⟨TL, ?_⟩, fun r hr' => (hr r hr').off oo (by decide), s.length, by omega, by rw [k68]; exact p5, u3, fun i hi => by rw [k69, p6 i hi, u4 i hi]⟩
    obtain ⟨t1, t2, t3, t4⟩ := hT
    refine ⟨by rw [k68, p9 0 (by decide) (by decide)]; exact t1, by rw [(oo.2.1 75 (by decide)).1]; exact t2, t3, fun i hi => ?_⟩
    rw [(oo.1 70 (by decide) (by decide) (by decide)).1, (oo.1 170 (by decide) (by decide) (by decide)).1]
    exact t4 i hi
  · have e1 := p8.1; have e2 := p8.2; have e3 := g3.1; have e4 := g3.2; have e5 := u6.1; have e6 := u6.2
    have n1 : dp_n N1 = dp_n N := by rw [hN1, hM1]; rfl
    have n2 : dp_z N1 = dp_z N := by rw [hN1, hM1]; rfl
    exact ⟨by omega, by omega⟩
end Rbf
