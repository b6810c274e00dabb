-- needs: 71 72 73 74
/-! RATES: rate, both -/
section Rj
variable {xs : Nat → Int32} {xl d : Nat} {M : dp_M}
theorem RelR.fin {M2 : dp_M} (h : RelR M) (o : Off Rt_S Rt_T M M2) (h0 : dp_I M2 68 0 = 0) (h1 : dp_I M2 68 1 = dp_I M 68 1) (h75 : dp_I M2 114 75 = 0) (hr : ∀ r, r < 301 → RtR M2 r) : RelR M2 := by
  obtain ⟨hn, -, -, P, p1, p2, p3, p4⟩ := h
  refine ⟨by have := o.2.2.2.2; omega, ⟨0, by rw [h0]; rfl, by rw [h75]; rfl, by omega, fun i hi => absurd hi (by omega)⟩, hr, P, p1, by rw [h1]; exact p2, by rw [(o.2.1 104 (by decide)).1]; exact p3, fun i hi => ?_⟩
  rw [(o.1 69 (by decide) (by decide) (by decide)).1, (o.1 190 (by decide) (by decide) (by decide)).1]
  exact p4 i hi
theorem s_rate (h : RelR M) (ht : RelT M) (v1 : Int32) : ∃ k b M1 M2, dp_den true xs xl (d + 46) 622 [.ref 0, .int v1, .ref 245] M = iR k M1 ∧ dp_den true xs xl (d + 46) 488 [.ref 114, .int v1] M1 = iR b M2 ∧
    dp_I M2 114 0 = k ∧ (k = 0 → dp_J M2 245 0 = b.toInt64) ∧ RelR M2 ∧ RelT M2 ∧ Off Rt_S Rt_T M M2 ∧ Cst 3 690 M M2 := by
  have h0 := h
  have ht0 := ht
  obtain ⟨hn, ⟨L, t1, t2, t3, t4⟩, hr, hp⟩ := h
  obtain ⟨R, K, hR, hK, a1, a2, -⟩ := ht
  have fin : ∀ {M2}, Off Rt_S Rt_T M M2 → RelT M2 := fun {M2} o => RelT_off ht0 o (by decide) (by decide)
  have up : ∀ {A B : dp_M}, Off Rt_A Rt_T A B → Off Rt_S Rt_T A B := fun o => o.mono (by decide) (by decide)
  by_cases z : wi v1 1 R
  case neg =>
    obtain ⟨M1, hM1⟩ : ∃ M1, M1 = dp_new (dp_setI M 68 0 0) 0 0 6 := ⟨_, rfl⟩
    have oN : Off Rt_A [] M M1 := by rw [hM1]; exact ((Off.rr _ _ M).I 68 (by decide) _ _).N hn 0 0 6
    obtain ⟨N3, hN3, e3⟩ := m_rate0 (xs := xs) (xl := xl) (d := d) (v1 := v1) t3 (show dp_I M1 114 75 = nI L by rw [(oN.2.1 75 (by decide)).1]; exact t2)
    have o3 : Off Rt_A Rt_T M1 N3 := by
      rw [hN3]
      exact Off.F 75 (by decide) _ (Off.rI 173 (by decide) _ (Off.F 79 (by decide) _ (Off.rr _ _ M1)))
    have f3 : ∀ i, i ≠ 75 → i ≠ 79 → dp_I N3 114 i = dp_I M 114 i := fun i h1 h2 => by rw [hN3, gII, if_pos rfl, uI_n h1, rI_I, if_neg (by decide), gII, if_pos rfl, uI_n h2, (oN.2.1 i (by simp)).1]
    have oA : Off Rt_A Rt_T M (dp_setI N3 114 0 1) := ((oN.mono (fun _ h => h) (by simp)).tr o3).F 0 (by decide) _
    have k68 : dp_I (dp_setI N3 114 0 1) 68 = uI (dp_I M 68) 0 0 := by rw [gII, if_neg (by decide), hN3, gII, if_neg (by decide), rI_I, if_neg (by decide), gII, if_neg (by decide), hM1, gIN (by show 68 < dp_n M; omega), gII, if_pos rfl]
    refine ⟨1, 0, M1, dp_setI N3 114 0 1, wL_rate_x0 ?_, ?_, by rw [gII, if_pos rfl, uI_s], fun e => (by cases e), h0.fin (up oA) (by rw [k68, uI_s]) (by rw [k68, uI_n (by decide)]) (by rw [gII, if_pos rfl, uI_n (by decide), hN3, gII, if_pos rfl, uI_s]) (fun r hr' => (hr r hr').off oA (by decide)), fin (up oA), up oA, ?_⟩
    · rw [D_X11_rate_0_den, D_X11_rate_0_eq, tc_meas (d := d + 42) a1 hR, rb_bi, show bI (wi v1 1 R) = 0 from bI_0.mpr z, if_pos rfl, c_empty, rb_bv, q_nk (by exact hn), hM1]
    · rw [e3, tm_meas (d := d + 44) (R := R) (by rw [f3 _ (by decide) (by decide)]; exact a2) hR, rb_bi, show bI (wi v1 1 R) = 0 from bI_0.mpr z, if_pos rfl, q_ref, rb_bi]
    · rw [hN3, hM1]
      exact ⟨show dp_n M + 1 ≤ dp_n M + 3 by omega, show dp_z M + 6 ≤ dp_z M + 690 by omega⟩
  obtain ⟨r, r1, r2, rfl⟩ := wi_of (a := 1) z (by omega)
  obtain ⟨t, hT⟩ : ∃ t, t = msk (dp_I M 170) L := ⟨_, rfl⟩
  have ti : ∀ i, i < L → t i = dp_I M 170 i := fun i hi => by rw [hT]; unfold msk; rw [if_pos hi]
  have txc : TxC M t L := ⟨t1, t3, fun i hi => by rw [ti i hi]; exact ⟨(t4 i hi).1, (t4 i hi).2⟩⟩
  have hbL : ∀ b, rdR t L = .inl b → b ≤ L := fun b hb => by
    obtain ⟨N, -, -, -, -, g, -⟩ := m_rate (xs := xs) (xl := xl) (d := d) (M := M) (R := R) (r := r) (t := t) t3 t2 (fun i hi => by rw [ti i hi]; exact ⟨rfl, (t4 i hi).2⟩) a2 hR r1 r2
    exact (g b hb).1
  obtain ⟨Mc, c1, c2, c3, c4, c5⟩ := c_tape (xs := xs) (xl := xl) (d := d) txc hn hbL
  have c1' : Off Rt_A Rt_T M Mc := c1.mono (by decide) (by decide)
  have nc : 246 ≤ dp_n Mc := by have := c1.2.2.2.2; omega
  have ms : dp_den true xs xl (d + 44) 255 [.ref 0, .int (nI r)] M = iR 1 M := by
    rw [tc_meas (d := d + 42) a1 hR, show bI (wi (nI r) 1 R) = 1 from bI_1.mpr z]
  cases hres : rdR t L with
  | inl b =>
    obtain ⟨k1, k2⟩ := c4 b hres
    obtain ⟨M1, hM1⟩ : ∃ M1, M1 = dp_setJ (dp_setI Mc 68 0 0) 245 0 (-1 - nI b : Int32).toInt64 := ⟨_, rfl⟩
    have o1 : Off Rt_A Rt_T M M1 := by rw [hM1]; exact (c1'.I 68 (by decide) _ _).J 245 (by decide) _ _
    have oo : Off [68, 71, 72, 73, 74, 245] [] M M1 := by rw [hM1]; exact ((c1.mono (by decide) (by decide)).I 68 (by decide) _ _).J 245 (by decide) _ _
    obtain ⟨N, g1, g2, g3, g4, g5, -⟩ := m_rate (xs := xs) (xl := xl) (d := d) (M := M1) (R := R) (r := r) (t := t) t3 (by rw [(oo.2.1 75 (by decide)).1]; exact t2) (fun i hi => by rw [ti i hi, (oo.1 170 (by decide) (by decide) (by decide)).1]; exact ⟨rfl, (t4 i hi).2⟩) (by rw [(oo.2.1 _ (by simp)).1]; exact a2) hR r1 r2
    have gA : Off Rt_A Rt_T M1 N := g1.mono (by decide) (by decide)
    have oA := o1.tr gA
    have k68 : dp_I N 68 = uI (dp_I Mc 68) 0 0 := by rw [(g1.1 68 (by decide) (by decide) (by decide)).1, hM1, gIJ, gII, if_pos rfl]
    refine ⟨0, -1 - nI b, M1, N, ?_, (g5 b hres).2, g3, fun _ => ?_, h0.fin (up oA) (by rw [k68, uI_s]) (by rw [k68, uI_n (by decide)]; exact c3 1 (by decide)) g4 (fun r hr' => (hr r hr').off oA (by decide)), fin (up oA), up oA, ?_⟩
    · rw [hM1]
      refine wL_rate_ok ?_
      rw [D_X11_rate_0_den, D_X11_rate_0_eq, ms, rb_bi, if_neg (by decide), k1]
      show dp_bv (dp_den true xs xl (d + 44) 144 [.ref 68] Mc) _ = _
      rw [c_empty, rb_bv, gII, if_pos rfl, uI_n (by decide), k2]
    · rw [(g1.1 245 (by decide) (by decide) (by decide)).2.1, hM1, gJJ, if_pos rfl, uI_s]
    · have e1 := g2.1; have e2 := g2.2; have e3 := c2.1; have e4 := c2.2
      have n1 : dp_n M1 = dp_n Mc := by rw [hM1]; rfl
      have n2 : dp_z M1 = dp_z Mc := by rw [hM1]; rfl
      exact ⟨by omega, by omega⟩
  | inr l =>
    obtain ⟨o, k1, k2, k3⟩ := c5 l hres
    have L1 := rdR_pos hres
    obtain ⟨Md, hMd⟩ : ∃ Md, Md = dp_setR (dp_setI Mc 68 0 0) 59 r (some o) := ⟨_, rfl⟩
    obtain ⟨M1, hM1⟩ : ∃ M1, M1 = dp_setJ Md 245 0 (nI l.length).toInt64 := ⟨_, rfl⟩
    have oc1 : Off [59, 68, 245] [] Mc M1 := by rw [hM1, hMd]; exact (((Off.rr _ _ Mc).I 68 (by decide) _ _).R 59 (by decide) _ _).J 245 (by decide) _ _
    have oo : Off [59, 68, 71, 72, 73, 74, 245] [] M M1 := (c1.mono (by decide) (by decide)).tr (oc1.mono (by decide) (by decide))
    obtain ⟨N, g1, g2, g3, g4, -, g5⟩ := m_rate (xs := xs) (xl := xl) (d := d) (M := M1) (R := R) (r := r) (t := t) t3 (by rw [(oo.2.1 75 (by decide)).1]; exact t2) (fun i hi => by rw [ti i hi, (oo.1 170 (by decide) (by decide) (by decide)).1]; exact ⟨rfl, (t4 i hi).2⟩) (by rw [(oo.2.1 _ (by simp)).1]; exact a2) hR r1 r2
    obtain ⟨l1, g173, gd⟩ := g5 l hres
    obtain ⟨M2, hM2⟩ : ∃ M2, M2 = rI (dp_setI N 172 r (nI L)) 171 (fN (dp_I N 171) (400 * r) L (dp_I N 173)) := ⟨_, rfl⟩
    rw [← hM2] at gd
    have oN2 : Off [171, 172] [] N M2 := by rw [hM2]; exact Off.rI 171 (by decide) _ ((Off.rr _ _ N).I 172 (by decide) _ _)
    have oc2 : Off Rt_S Rt_T Mc M2 := ((oc1.mono (by decide) (by decide)).tr (g1.mono (by decide) (by decide))).tr (oN2.mono (by decide) (by decide))
    have oA : Off Rt_S Rt_T M M2 := (up c1').tr oc2
    have k68 : dp_I M2 68 = uI (dp_I Mc 68) 0 0 := by
      rw [(oN2.1 68 (by decide) (by decide) (by decide)).1, (g1.1 68 (by decide) (by decide) (by decide)).1, hM1, gIJ, hMd, gIR, gII, if_pos rfl]
    have k59 : dp_R M2 59 = uI (dp_R M 59) r (some o) := by
      rw [(oN2.1 59 (by decide) (by decide) (by decide)).2.2, (g1.1 59 (by decide) (by decide) (by decide)).2.2, hM1, gRJ, hMd, gRR, if_pos rfl, gRI, (c1.1 59 (by decide) (by decide) (by decide)).2.2]
    have j171 : dp_I N 171 = dp_I M 171 := by rw [(g1.1 171 (by decide) (by decide) (by decide)).1, (oo.1 171 (by decide) (by decide) (by decide)).1]
    have j172 : dp_I N 172 = dp_I M 172 := by rw [(g1.1 172 (by decide) (by decide) (by decide)).1, (oo.1 172 (by decide) (by decide) (by decide)).1]
    have k172 : dp_I M2 172 = uI (dp_I M 172) r (nI L) := by rw [hM2, rI_I, if_neg (by decide), gII, if_pos rfl, j172]
    have k171 : dp_I M2 171 = fN (dp_I M 171) (400 * r) L (dp_I N 173) := by rw [hM2, rI_I, if_pos rfl, j171]
    have to : ∀ i, i < L → dp_I M2 171 (400 * r + i) = dp_I M 170 i := fun i hi => by rw [k171, fN_in hi, g173 i hi, ti i hi]
    have rows : ∀ r', r' < 301 → RtR M2 r' := fun r' hr' => by
      by_cases y : r' = r
      · subst y
        refine Or.inr ⟨o, l, L, by rw [k59, uI_s], k2.off oc2, by rw [k172, uI_s], L1, t3, fun i hi => by rw [to i hi]; exact (t4 i hi).2, ?_⟩
        have : msk (fun i => dp_I M2 171 (400 * r' + i)) L = t := by
          rw [hT]
          funext i
          unfold msk
          by_cases w : i < L
          · rw [if_pos w, if_pos w]; exact to i w
          · rw [if_neg w, if_neg w]
        rw [this]; exact hres
      · refine (hr r' hr').ch (by rw [k59, uI_n y]) (by rw [k172, uI_n y]) (fun i hi => ?_) (fun q l h => h.off oA)
        rw [k171]
        by_cases w : r' < r
        · rw [fN_lt (by omega)]
        · rw [fN_ge (by omega)]
    have b16 : dp_t true (dp_setI Mc 68 0 0) o = 16 := by rw [bg_t k2.1]; exact k2.2.2.1
    have b16' : dp_t true Md o = 16 := by rw [hMd, bg_t k2.1]; exact k2.2.2.1
    have bo : dp_I Md o 0 = nI l.length := by
      have := k2.1
      rw [hMd, gIR, gII, if_neg (by omega)]; exact k2.2.2.2.1
    refine ⟨0, nI l.length, M1, M2, ?_, gd, by rw [(oN2.2.1 0 (by simp)).1]; exact g3, fun _ => ?_, h0.fin oA (by rw [k68, uI_s]) (by rw [k68, uI_n (by decide)]; exact c3 1 (by decide)) (by rw [(oN2.2.1 75 (by simp)).1]; exact g4) rows, fin oA, oA, ?_⟩
    · rw [hM1]
      refine wL_rate_ok ?_
      rw [D_X11_rate_0_den, D_X11_rate_0_eq, ms, rb_bi, if_neg (by decide), k1]
      show dp_bv (dp_den true xs xl (d + 44) 144 [.ref 68] Mc) _ = _
      rw [c_empty, rb_bv, if_pos b16, nI_cl (by omega), if_neg (show ¬ (nI r < 0 ∨ 301 ≤ r) by rw [nI_o (show r < 301 by omega) (by omega)]; exact id), dpw, ← hMd, if_pos b16', bo]
    · rw [(oN2.1 245 (by decide) (by decide) (by decide)).2.1, (g1.1 245 (by decide) (by decide) (by decide)).2.1, hM1, gJJ, if_pos rfl, uI_s]
    · have e1 := g2.1; have e2 := g2.2; have e3 := c2.1; have e4 := c2.2
      have n1 : dp_n M1 = dp_n Mc := by rw [hM1, hMd]; rfl
      have n2 : dp_z M1 = dp_z Mc := by rw [hM1, hMd]; rfl
      have n3 : dp_n M2 = dp_n N := by rw [hM2]; rfl
      have n4 : dp_z M2 = dp_z N := by rw [hM2]; rfl
      exact ⟨by omega, by omega⟩
end Rj
