-- needs: 71 72 73 74 75 76 77 78 79 80 81 85 86
/-! PLAN: class and model side by side (2) -/
section PlR
variable {xs : Nat → Int32} {xl d : Nat} {M : dp_M}
theorem an_w {n T c0 i j : Nat} {l ah : Nat → Int32} (h : j < (qbf n T l ah [(c0, 0, 0)] i).length) (h0 : 0 < j) : ∃ f t k p, f < 7 ∧ t < 5 ∧ k < n ∧ tkn (qat (qbf n T l ah [(c0, 0, 0)] i) (qat (qbf n T l ah [(c0, 0, 0)] i) j).2.1).1 n f = some k ∧ mvt (qat (qbf n T l ah [(c0, 0, 0)] i) (qat (qbf n T l ah [(c0, 0, 0)] i) j).2.1).1 n T l ah k f t = some p ∧
    (qat (qbf n T l ah [(c0, 0, 0)] i) j).1 = pu (qat (qbf n T l ah [(c0, 0, 0)] i) (qat (qbf n T l ah [(c0, 0, 0)] i) j).2.1).1 k p ∧ (qat (qbf n T l ah [(c0, 0, 0)] i) j).2.2 = k * 64 + f * 8 + t := by
  obtain ⟨f, t, k, p, h1, h2, h3, h4, h5, h6⟩ := (qbf_z (n := n) (T := T) (c0 := c0) (l := l) (ah := ah) i).1.2.2 j h0 h
  exact ⟨f, t, k, p, h1, h2, (tkn_p h3).1, h3, h4, h5, h6⟩
theorem pl_sim {n B T c : Nat} {v1 : Int32} (h : AR M n B T c) (hc : c + 1 < 1073741824) : ∃ k b M1 M2, dp_den true xs xl (d + 40) 596 [.ref 0, .int v1, .ref 245] M = iR k M1 ∧ dp_den true xs xl (d + 40) 387 [.ref 114, .int v1] M1 = iR b M2 ∧
    dp_I M2 114 0 = k ∧ (k = 0 → dp_J M2 245 0 = b.toInt64) ∧ AR M2 n B T (c + 1) ∧ True ∧ Cst 1 6 M M2 := by
  have h0 := h
  obtain ⟨⟨⟨⟨hh, -⟩, -⟩, -⟩, -, -, -, hrr, -, -, hz⟩ := h
  have hn := hrr.1
  have hh0 := hh
  obtain ⟨a1, a2, a3, a4, a5, a6, a7, a8, a9, a10, a11, a12, a13, a14, a15, b1, b2, b3, b4, b5, b6, b7, b8, b9, b10, c1, hs, hpl⟩ := hh
  by_cases g : qin v1 B
  case neg =>
    obtain ⟨q1, q2, q3⟩ := hh0.refused hn 1
    refine ⟨1, 0, dp_new M 0 0 6, dp_setI (dp_new M 0 0 6) 114 0 1, wL_plan_x0 ?_, ?_, rfl, (fun e => by cases e), ar_plan h0 hc (q2.mono (by decide) (by decide)) q1 (PlN_off hz q2 (by decide)), trivial, q3⟩
    · rw [D_X11_plan_0_den, D_X11_plan_0_eq, pc_bay (d := d + 36) a8 a3]
      simp only [rb_bi, ibz, q_nk hn]
      rw [if_neg g]
    · rw [D_X12_plan_0_den, D_X12_plan_0_eq, pm_bay (d := d + 38) (n := B) (by rw [gIN (by omega)]; exact a9) a3]
      simp only [q_ref, rb_bi, ibz]
      rw [if_neg g]
  obtain ⟨b, hb, rfl⟩ := qin_of g (by omega)
  obtain ⟨r, z1, z2, z3⟩ := hz
  obtain ⟨m, hm⟩ : ∃ m, m = ct (lyf (dp_I M 8) (dp_I M 9) (nI b)) n := ⟨_, rfl⟩
  obtain ⟨c0, ec⟩ : ∃ c0, c0 = cod (fun k => pcl (dp_I M 9) (dp_I M 10) (lob (lyf (dp_I M 8) (dp_I M 9) (nI b)) n k)) m := ⟨_, rfl⟩
  obtain ⟨vv, -, cr⟩ := st_code hs hb a1 a5 hm
  rw [← ec] at vv cr
  have x := st_bx hs hb hm
  have m4 := x.2.1
  obtain ⟨v, N, i, l, ah, k1, k2, k3, k4, k5, k6, k7⟩ := c_plan (xs := xs) (xl := xl) (d := d + 31) hh0 hb hm ec z2 (by omega) z3
  obtain ⟨lo, elo⟩ : ∃ lo, lo = lob (lyf (dp_I M 8) (dp_I M 9) (nI b)) n := ⟨_, rfl⟩
  have l100 : ∀ k, k < m → lo k < 100 := fun k hk => by rw [elo]; have := (x.lo hk).1; omega
  rw [← elo] at k2 k3 k4
  have l25 : dp_len N 25 = B := by rw [k5.1.2.2.1 25 (by decide)]; exact a13
  have l26 : dp_len N 26 = B := by rw [k5.1.2.2.1 26 (by decide)]; exact a14
  have l27 : dp_len N 27 = B * 16 := by rw [k5.1.2.2.1 27 (by decide)]; exact a15
  have sbN : SB N := k1.2.2.1
  -- what the class answers, if its plan ends in N4
  have cls : ∀ w N4, D_X2_makePlan_109 xs xl (d + 37) (nI b) (nI m) v 0 N = iR w N4 → dp_den true xs xl (d + 40) 596 [.ref 0, .int (nI b), .ref 245] M = iR 0 (dp_setJ N4 245 0 w.toInt64) := fun w N4 e => by
    refine wL_plan_ok ?_
    rw [D_X11_plan_0_den, D_X11_plan_0_eq, pc_bay (d := d + 36) a8 a3]
    simp only [rb_bi, ibz]
    rw [if_pos g, k7 _ e, rb_bi]
  -- the model behind any such end
  have mdl : ∀ N4 w, Rf (25 :: 26 :: 27 :: CpS) [] M N4 → ∃ v' N6 i', dp_den true xs xl (d + 39) 386 [.ref 114, .int (nI b)] (dp_setI (dp_setJ N4 245 0 w) 114 0 0) = iR v' N6 ∧ mAn m T l ah [(c0, 0, 0)] N6 v' i' ∧ MD N6 m T l ah ∧ (∀ k, k < m → dp_I N6 130 k = nI (lo k)) ∧ Rf MpS MpT (dp_setI (dp_setJ N4 245 0 w) 114 0 0) N6 := fun N4 w f => by
    have rr : ∀ k, k < 246 → k ∉ 25 :: 26 :: 27 :: CpS → k ≠ 114 → dp_I (dp_setI (dp_setJ N4 245 0 w) 114 0 0) k = dp_I M k := fun k q1 q2 q3 => by rw [gII, if_neg q3, gIJ]; exact f.row q1 q2 q3
    have ff : ∀ k, k ≠ 0 → dp_I (dp_setI (dp_setJ N4 245 0 w) 114 0 0) 114 k = dp_I M 114 k := fun k q => by rw [gII, if_pos rfl, uI_n q, gIJ]; exact f.fld (by simp)
    rw [elo]
    refine m_srch (xs := xs) (xl := xl) (d := d + 34) (port := dp_I M 2) hs a5 hb a1 hm ec (fun k hk => ?_) (fun k hk => by rw [k3 k hk, elo]) (by rw [ff 2 (by decide)]; exact a11) (by rw [ff 3 (by decide)]; exact a7) (by rw [rr 115 (by decide) (by decide) (by decide)]; exact b1) (by rw [rr 116 (by decide) (by decide) (by decide)]; exact b2) (by rw [rr 117 (by decide) (by decide) (by decide)]; exact b3) (by rw [rr 118 (by decide) (by decide) (by decide)]; exact b4) (by rw [rr 119 (by decide) (by decide) (by decide)]; exact b5)
    rw [k2 k hk, elo]
    unfold lvo
    by_cases q : dp_I M 2 (lob (lyf (dp_I M 8) (dp_I M 9) (nI b)) n k) = 0
    · rw [if_pos q]; exact ⟨fun _ => by decide, fun _ => q⟩
    · rw [if_neg q]; exact ⟨fun w => absurd w q, fun w => absurd rfl w⟩
  -- the model's plan out of its search's answer
  have mpl : ∀ P R, dp_den true xs xl (d + 39) 386 [.ref 114, .int (nI b)] (dp_setI P 114 0 0) = iR (-1) R → dp_I P 114 1 = nI B → dp_den true xs xl (d + 40) 387 [.ref 114, .int (nI b)] P = iR (-1) (dp_setI R 120 b 0) := fun P R e eb => by
    rw [D_X12_plan_0_den, D_X12_plan_0_eq, pm_bay (d := d + 38) (n := B) eb a3]
    simp only [rb_bi, ibz, dp_w]
    rw [if_pos g, e, rb_bi, if_pos (by decide)]
    simp only [nI_cl (show b < 2147483648 by omega), nI_o (show b < 12 by omega) (by omega), if_false]
    rw [if_neg (by decide)]; rfl
  have mpy : ∀ P R g' res, g' < 2147483648 → dp_den true xs xl (d + 39) 386 [.ref 114, .int (nI b)] (dp_setI P 114 0 0) = iR (nI g') R → dp_I P 114 1 = nI B → D_X12_plan_51 xs xl (d + 39) (nI b) (nI g') 0 (nI g') (dp_setI R 120 b 1) = some res → dp_den true xs xl (d + 40) 387 [.ref 114, .int (nI b)] P = some res := fun P R g' res hg' e eb er => by
    rw [D_X12_plan_0_den, D_X12_plan_0_eq, pm_bay (d := d + 38) (n := B) eb a3]
    simp only [rb_bi, ibz, dp_w]
    rw [if_pos g, e, rb_bi, if_neg (nI_nn hg')]
    simp only [nI_cl (show b < 2147483648 by omega), nI_o (show b < 12 by omega) (by omega), if_false]
    rw [if_pos (show (0 : Int32) ≤ nI g' from nI_lle (n := 0) (by omega) (by omega))]; exact er
  have bys : ∀ N4 w, Rf (25 :: 26 :: 27 :: CpS) [] M N4 → dp_I (dp_setJ N4 245 0 w) 114 1 = nI B := fun N4 w f => by rw [gIJ, f.fld (by simp)]; exact a9
  -- the frame and the planner's rounds at the end
  have frm : ∀ N4 w R S, Rf (25 :: 26 :: 27 :: CpS) [] M N4 → Rf MpS MpT (dp_setI (dp_setJ N4 245 0 w) 114 0 0) R → Rf (120 :: MqS) [] R S → Off PlS PlT M S ∧ Cst 1 6 M S ∧ dp_I S 114 0 = 0 ∧ dp_J S 245 0 = w ∧ dp_I S 25 = dp_I N4 25 ∧ dp_I S 26 = dp_I N4 26 ∧ dp_I S 27 = dp_I N4 27 ∧ dp_I S 14 = dp_I N4 14 ∧ dp_I S 16 = dp_I N4 16 := fun N4 w R S f1 f2 f3 => by
    have o1 : Off PlS PlT M (dp_setI (dp_setJ N4 245 0 w) 114 0 0) := ((f1.1.mono (by decide) (by decide)).J 245 (by decide) 0 w).F 0 (by decide) 0
    have o2 : Off PlS PlT M S := (o1.tr (f2.1.mono (by decide) (by decide))).tr (f3.1.mono (by decide) (by decide))
    have rw4 : ∀ k, k < 246 → k ∉ MpS → k ∉ 120 :: MqS → k ≠ 114 → dp_I S k = dp_I N4 k := fun k q1 q2 q3 q4 => by rw [f3.row q1 q3 q4, f2.row q1 q2 q4, gII, if_neg q4, gIJ]
    refine ⟨o2, ⟨?_, ?_⟩, ?_, ?_, rw4 25 (by decide) (by decide) (by decide) (by decide), rw4 26 (by decide) (by decide) (by decide) (by decide), rw4 27 (by decide) (by decide) (by decide) (by decide), rw4 14 (by decide) (by decide) (by decide) (by decide), rw4 16 (by decide) (by decide) (by decide) (by decide)⟩
    · rw [f3.2.1, f2.2.1, gnI, gnJ, f1.2.1]; omega
    · rw [f3.2.2, f2.2.2, gzI, gzJ, f1.2.2]; omega
    · rw [f3.fld (by decide), f2.fld (by decide), gII, if_pos rfl, uI_s]
    · rw [(f3.1.1 245 (by decide) (by decide) (by decide)).2.1, (f2.1.1 245 (by decide) (by decide) (by decide)).2.1, gJI, gJJ, if_pos rfl, uI_s]
  have pln : ∀ S, dp_I S 14 = dp_I N 14 → dp_I S 16 = dp_I N 16 → PlN S (c + 1) := fun S e1 e2 => by
    obtain ⟨r', ⟨s1, s2⟩, s3⟩ := sbN
    rw [k6, nI_eq (by omega) s1] at s2
    exact ⟨r + 1, by omega, by rw [e1]; exact k6, fun a => by rw [e2]; obtain ⟨y, y1, y2⟩ := s3 a; exact ⟨y, by omega, y2⟩⟩
  rcases k1.2.2.2 with ⟨ev, -, -⟩ | ⟨q5, L, q6, ev, q8, q9, q10⟩
  · -- no plan
    have e4 := c_mk2n (xs := xs) (xl := xl) (d := d + 31) (M := N) (m := m) hb a3 l25 l26
    rw [ev] at cls
    obtain ⟨N4, en4⟩ : ∃ N4, N4 = dp_setI (dp_setI N 25 b (-1)) 26 b 0 := ⟨_, rfl⟩
    rw [← en4] at e4
    have f4 : Rf (25 :: 26 :: 27 :: CpS) [] M N4 := by
      rw [en4]
      exact ((k5.mono (by decide) (by decide)).I 25 (by decide) _ _).I 26 (by decide) _ _
    obtain ⟨v', N6, i', t1, t2, t3, t4, t5⟩ := mdl N4 ((-1 : Int32).toInt64) f4
    rcases an_jn m4 a5 k1 t2 with ⟨-, ev'⟩ | ⟨L, hL9, e, -⟩
    case inr => rw [ev] at e; exact absurd e.symm (m1_ne (by omega))
    rw [ev'] at t1
    have f7 : Rf (120 :: MqS) [] N6 (dp_setI N6 120 b 0) := (Rf.r _ _ N6).I 120 (by decide) _ _
    obtain ⟨o, cst, w0, w245, w25, w26, w27, w14, w16⟩ := frm N4 _ N6 _ f4 t5 f7
    have rN : ∀ k, k ≠ 25 → k ≠ 26 → dp_I N4 k = dp_I N k := fun k y1 y2 => by rw [en4, gII, if_neg y2, gII, if_neg y1]
    refine ⟨0, -1, _, _, cls _ _ e4, mpl _ _ t1 (bys N4 _ f4), w0, fun _ => w245, ar_plan h0 hc o (HR_plan hh0 o (fun b' hb' => ?_)) (pln _ (by rw [w14, rN 14 (by decide) (by decide)]) (by rw [w16, rN 16 (by decide) (by decide)])), trivial, cst⟩
    have n25 : dp_I N4 25 = uI (dp_I M 25) b (-1) := by rw [en4, gII, if_neg (by decide), gII, if_pos rfl, k5.row (by decide) (by decide) (by decide)]
    have n26 : dp_I N4 26 = uI (dp_I M 26) b 0 := by rw [en4, gII, if_pos rfl, gII, if_neg (by decide), k5.row (by decide) (by decide) (by decide)]
    have n27 : dp_I N4 27 = dp_I M 27 := by rw [rN 27 (by decide) (by decide), k5.row (by decide) (by decide) (by decide)]
    have n12 : ∀ k, k < 246 → k ∉ 25 :: 26 :: 27 :: CpS → k ∉ MpS → k ≠ 114 → dp_I N6 k = dp_I M k := fun k y1 y2 y3 y4 => by rw [t5.row y1 y3 y4, gII, if_neg y4, gIJ, f4.row y1 y2 y4]
    have s12 : ∀ k, k ≠ 120 → dp_I (dp_setI N6 120 b 0) k = dp_I N6 k := fun k y => by rw [gII, if_neg y]
    by_cases z : b' = b
    · left
      subst z
      exact ⟨by rw [gII, if_pos rfl, uI_s], by rw [w25, n25, uI_s]⟩
    · refine HPl_other (b := b) (hpl b' hb') z o (by rw [w25, n25, uI_n z]) (by rw [w26, n26, uI_n z]) ?_ ?_ ?_ (fun j _ => by rw [w27, n27]) (fun j _ => ⟨?_, ?_, ?_⟩)
      · rw [gII, if_pos rfl, uI_n z, n12 120 (by decide) (by decide) (by decide) (by decide)]
      · rw [s12 121 (by decide), n12 121 (by decide) (by decide) (by decide) (by decide)]
      · rw [s12 122 (by decide), n12 122 (by decide) (by decide) (by decide) (by decide)]
      · rw [s12 123 (by decide), n12 123 (by decide) (by decide) (by decide) (by decide)]
      · rw [s12 124 (by decide), n12 124 (by decide) (by decide) (by decide) (by decide)]
      · rw [s12 125 (by decide), n12 125 (by decide) (by decide) (by decide) (by decide)]
  · -- a plan
    have gG := gi_g (l := l) (ah := ah) m4 a5
    have wq := (gG.1 _ k1.1).2
    have aP : ∀ j, j < L → anc (qbf m T l ah [(c0, 0, 0)] i) (qfe l m (qbf m T l ah [(c0, 0, 0)] i)) j < (qbf m T l ah [(c0, 0, 0)] i).length := fun j hj => Nat.lt_of_le_of_lt (anc_le wq q5 q9 j (by omega)) q5
    obtain ⟨we, hwe⟩ : ∃ we : Nat → Nat, we = fun e => (qat (qbf m T l ah [(c0, 0, 0)] i) (anc (qbf m T l ah [(c0, 0, 0)] i) (qfe l m (qbf m T l ah [(c0, 0, 0)] i)) (L - 1 - e))).2.2 := ⟨_, rfl⟩
    have hw : ∀ e, e < L → dp_I N 15 e = nI (we e) ∧ we e / 64 < m := fun e he => by
      refine ⟨?_, ?_⟩
      · have := q10 (L - 1 - e) (by omega)
        rw [show L - 1 - (L - 1 - e) = e by omega] at this
        rw [this, hwe]
      · obtain ⟨f, t, k, p, y1, y2, y3, -, -, -, y7⟩ := an_w (aP (L - 1 - e) (by omega)) (q9 (L - 1 - e) (by omega))
        rw [hwe]
        (try dsimp only)
        rw [y7]; omega
    obtain ⟨N4, e4, n25, n26, n27, n27', f4'⟩ := c_mk2 (xs := xs) (xl := xl) (d := d + 31) (M := N) (m := m) (lo := lo) (we := we) hb a3 q6 m4 l25 l26 l27 (fun k hk => ⟨l100 k hk, k4 k hk⟩) hw
    rw [ev] at cls
    have f4 : Rf (25 :: 26 :: 27 :: CpS) [] M N4 := (k5.mono (by decide) (by decide)).tr (f4'.mono (by decide) (by decide))
    obtain ⟨v', N6, i', t1, t2, t3, t4, t5⟩ := mdl N4 ((nI L : Int32).toInt64) f4
    rcases an_jn m4 a5 k1 t2 with ⟨e, -⟩ | ⟨L', u1, u2, u3, u4, u5, u6, u7, u8⟩
    · rw [ev] at e; exact absurd e (m1_ne (by omega))
    have hLL : L' = L := by
      rw [ev] at u2
      exact ((nI_eq (by omega) (by omega)).mp u2).symm
    subst hLL
    obtain ⟨ms, qg, -, -⟩ := t2
    have hQ := qg.1.1.len m4
    rw [u3] at t1
    obtain ⟨Q, eQ⟩ : ∃ Q, Q = qbf m T l ah [(c0, 0, 0)] i' := ⟨_, rfl⟩
    have qz := (qbf_z (n := m) (T := T) (c0 := c0) (l := l) (ah := ah) i').1
    have aw := fun j (h : j < (qbf m T l ah [(c0, 0, 0)] i').length) (h0 : 0 < j) => an_w (n := m) (T := T) (c0 := c0) (i := i') (l := l) (ah := ah) h h0
    have q00 := (qbf_k (n := m) (T := T) (l := l) (ah := ah) (Q0 := [(c0, 0, 0)]) (i := 0) (j := 0) (show 0 < 1 by decide) i').2
    rw [Nat.zero_add] at q00
    rw [← eQ] at ms qg hQ u4 u5 u6 u7 u8 qz aw q00
    have le := anc_le qg.1.2 u4 u7
    -- the model writes
    obtain ⟨R, eR⟩ : ∃ R, R = dp_setI N6 120 b 1 := ⟨_, rfl⟩
    have fR : Rf [120] [] N6 R := by rw [eR]; exact (Rf.r _ _ N6).I 120 (by decide) _ _
    have msR : MS R m Q := by
      obtain ⟨y1, y2, y3⟩ := ms
      have j126 : dp_J R 126 = dp_J N6 126 := by rw [eR, gJI]
      refine ⟨by rw [fR.fld (by decide)]; exact y1, by rw [fR.row (by decide) (by decide) (by decide), j126]; exact y2, fun j hj => ?_⟩
      rw [j126, fR.row (k := 127) (by decide) (by decide) (by decide), fR.row (k := 128) (by decide) (by decide) (by decide)]; exact y3 j hj
    have mdR : MD R m T l ah := by
      obtain ⟨y1, y2, y3, y4⟩ := t3
      refine ⟨by rw [fR.fld (by decide)]; exact y1, by rw [fR.fld (by decide)]; exact y2, fun k hk => ?_, fun k hk => ?_⟩
      · rw [fR.row (k := 130) (by decide) (by decide) (by decide), fR.row (k := 115) (by decide) (by decide) (by decide)]; exact y3 k hk
      · rw [fR.row (by decide) (by decide) (by decide)]; exact y4 k hk
    obtain ⟨S, g1, g121, g122, g123, g123', fS⟩ := m_wrp (xs := xs) (xl := xl) (d := d + 36) (M := R) (lo := lo) (b := b) m4 a5 (by omega) q6 (fun k hk => ⟨l100 k hk, by rw [fR.row (by decide) (by decide) (by decide)]; exact t4 k hk⟩) msR qg qz.2.2 mdR u4 u6 u7
    have fS' : Rf (120 :: MqS) [] N6 S := (fR.mono (by decide) (by decide)).tr (fS.mono (by decide) (by decide))
    obtain ⟨o, cst, w0, w245, w25, w26, w27, w14, w16⟩ := frm N4 _ N6 _ f4 t5 fS'
    rw [eR] at g1
    refine ⟨0, nI L', _, S, cls _ _ e4, mpy _ _ i' _ (by omega) t1 (bys N4 _ f4) g1, w0, fun _ => w245, ar_plan h0 hc o (HR_plan hh0 o (fun b' hb' => ?_)) (pln _ (by rw [w14, f4'.row (by decide) (by decide) (by decide)]) (by rw [w16, f4'.row (by decide) (by decide) (by decide)])), trivial, cst⟩
    have nM : ∀ k, k < 246 → k ∉ CpS → k ≠ 114 → dp_I N k = dp_I M k := fun k y1 y2 y4 => k5.row y1 y2 y4
    have n12 : ∀ k, k < 246 → k ∉ 25 :: 26 :: 27 :: CpS → k ∉ MpS → k ≠ 114 → dp_I N6 k = dp_I M k := fun k y1 y2 y3 y4 => by rw [t5.row y1 y3 y4, gII, if_neg y4, gIJ, f4.row y1 y2 y4]
    have r12 : ∀ k, k < 246 → k ∉ 25 :: 26 :: 27 :: CpS → k ∉ MpS → k ≠ 114 → k ≠ 120 → dp_I R k = dp_I M k := fun k y1 y2 y3 y4 y5 => by rw [eR, gII, if_neg y5]; exact n12 k y1 y2 y3 y4
    have s120 : dp_I S 120 = uI (dp_I M 120) b 1 := by rw [fS.row (by decide) (by decide) (by decide), eR, gII, if_pos rfl, n12 120 (by decide) (by decide) (by decide) (by decide)]
    have s121 : dp_I S 121 = uI (dp_I M 121) b (nI L') := by rw [g121, r12 121 (by decide) (by decide) (by decide) (by decide) (by decide)]
    have s122 : dp_I S 122 = uI (dp_I M 122) b 0 := by rw [g122, r12 122 (by decide) (by decide) (by decide) (by decide) (by decide)]
    have s25 : dp_I S 25 = uI (dp_I M 25) b (nI L') := by rw [w25, n25, nM 25 (by decide) (by decide) (by decide)]
    have s26 : dp_I S 26 = uI (dp_I M 26) b 0 := by rw [w26, n26, nM 26 (by decide) (by decide) (by decide)]
    by_cases z : b' = b
    case neg =>
      refine HPl_other (b := b) (hpl b' hb') z o (by rw [s25, uI_n z]) (by rw [s26, uI_n z]) (by rw [s120, uI_n z]) (by rw [s121, uI_n z]) (by rw [s122, uI_n z]) (fun j hj => by rw [w27, n27' j hj, nM 27 (by decide) (by decide) (by decide)]) (fun j hj => ?_)
      have := g123' j hj
      rw [r12 123 (by decide) (by decide) (by decide) (by decide) (by decide), r12 124 (by decide) (by decide) (by decide) (by decide) (by decide), r12 125 (by decide) (by decide) (by decide) (by decide) (by decide)] at this
      exact this
    subst z
    right
    -- the moves by their numbers
    obtain ⟨w, ew⟩ : ∃ w : Nat → Nat, w = fun e => (qat Q (anc Q i' (L' - 1 - e))).2.2 := ⟨_, rfl⟩
    have dec : ∀ e, e < L' → ∃ f t k p, f < 7 ∧ t < 5 ∧ k < m ∧ tkn (qat Q (anc Q i' (L' - e))).1 m f = some k ∧ mvt (qat Q (anc Q i' (L' - e))).1 m T l ah k f t = some p ∧ (qat Q (anc Q i' (L' - (e + 1)))).1 = pu (qat Q (anc Q i' (L' - e))).1 k p ∧ w e = k * 64 + f * 8 + t := fun e he => by
      have := le (L' - 1 - e) (by omega)
      obtain ⟨f, t, k, p, y1, y2, y3, y4, y5, y6, y7⟩ := aw (anc Q i' (L' - 1 - e)) (by omega) (u7 _ (by omega))
      have ea : (qat Q (anc Q i' (L' - 1 - e))).2.1 = anc Q i' (L' - e) := by rw [show L' - e = (L' - 1 - e) + 1 by omega]; rfl
      rw [ea] at y4 y5 y6
      refine ⟨f, t, k, p, y1, y2, y3, y4, y5, ?_, by rw [ew]; exact y7⟩
      rw [show L' - (e + 1) = L' - 1 - e by omega]; exact y6
    have wwe : ∀ e, e < L' → we e = w e := fun e he => by
      obtain ⟨f, t, k, p, y1, y2, y3, -, -, -, y7⟩ := dec e he
      have h1 := (hw e he)
      have h2 := u8 (L' - 1 - e) (by omega)
      rw [show L' - 1 - (L' - 1 - e) = e by omega, h1.1] at h2
      have h3 : w e = (qat Q (anc Q i' (L' - 1 - e))).2.2 := by rw [ew]
      rw [← h3] at h2
      exact (nI_eq (by omega) (by omega)).mp h2
    refine ⟨by rw [s120, uI_s], L', 0, Nat.zero_le _, q6, by rw [s25, uI_s], by rw [s121, uI_s], by rw [s26, uI_s]; rfl, by rw [s122, uI_s]; rfl, fun e => lo (w e / 64), fun e => w e % 64 / 8, fun e => w e % 8, fun e he => ?_, ?_⟩
    · obtain ⟨f, t, k, p, y1, y2, y3, y4, y5, y6, y7⟩ := dec e he
      have g := g123 (L' - 1 - e) (by omega)
      rw [show L' - 1 - (L' - 1 - e) = e by omega] at g
      have h3 : w e = (qat Q (anc Q i' (L' - 1 - e))).2.2 := by rw [ew]
      rw [← h3] at g
      (try dsimp only)
      refine ⟨l100 _ (by omega), by omega, by omega, ?_, g.1, g.2.1, g.2.2⟩
      rw [w27, n27 e he, wwe e he]; congr 1; omega
    · have e8 : ∀ k, k < 246 → k ∉ PlS → k ≠ 114 → dp_I S k = dp_I M k := fun k h1 h2 h3 => (o.1 k h1 h2 h3).1
      rw [e8 8 (by decide) (by decide) (by decide), e8 12 (by decide) (by decide) (by decide), e8 9 (by decide) (by decide) (by decide), e8 10 (by decide) (by decide) (by decide), Nat.sub_zero]
      refine pv_way (l := l) (ah := ah) (cs := fun e => (qat Q (anc Q i' (L' - e))).1) (L := L') x a5 (fun e he => ?_) (fun cc k hk hA j hj hn' => ?_) L' 0 _ _ (Nat.zero_add _) ?_ ?_
      · obtain ⟨f, t, k, p, y1, y2, y3, y4, y5, y6, y7⟩ := dec e he
        refine ⟨f, t, k, p, y1, y2, y4, y5, y6, ?_, ?_⟩
        · (try dsimp only)
          rw [elo, y7]; congr 1; omega
        · (try dsimp only)
          omega
      · rw [k3 k hk, elo] at hA
        exact ah_ok m4 hA j hj hn'
      · (try dsimp only)
        rw [Nat.sub_zero, u6, q00]; exact vv
      · (try dsimp only)
        rw [Nat.sub_zero, u6, q00]; exact cr
end PlR
