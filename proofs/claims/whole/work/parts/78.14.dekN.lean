-- needs: 71 72 73 74 75 76 77
/-! DECLARATIONS: cancel, side by side -/
section DO
variable {xs : Nat → Int32} {xl d : Nat} {M : dp_M}
def Cn_S : List Nat := [245, 45, 47, 75, 81, 85, 86, 87, 88, 89, 90, 95, 96, 110, 111, 198, 215, 216, 241]
theorem s_cancel {n B T c : Nat} (hp : PR M n B T c) (hq : RelQ M) (hsx : RelS M) (hd : RelD M) (hn : 246 ≤ dp_n M) (v1 : Int32) : ∃ k b M1 M2, dp_den true xs xl (d + 8) 653 [.ref 0, .int v1, .ref 245] M = iR k M1 ∧ dp_den true xs xl (d + 8) 583 [.ref 114, .int v1] M1 = iR b M2 ∧
    dp_I M2 114 0 = k ∧ (k = 0 → dp_J M2 245 0 = b.toInt64) ∧ (PR M2 n B T c ∧ RelQ M2 ∧ RelS M2 ∧ RelD M2) ∧ Off Cn_S [0] M M2 ∧ Cst 1 6 M M2 := by
  have hp0 := hp
  obtain ⟨D, A, R, hb⟩ := hd
  have hb0 := hb
  obtain ⟨h1, h2, h3, h4, h5, h6, h7, h8, h9, h10, h11, h12, h13, h14⟩ := hb
  obtain ⟨hn1, -, -, -, -, ew, -⟩ := hp.bx
  obtain ⟨p1, p2, p3, p4, p5, p6, p7⟩ := hp
  have p30 := p3
  obtain ⟨G, D', hG, hD', g1, g2, g3, g4, g5, g6, g7, g8⟩ := p3
  have eD : D' = D := by rw [h3, nI_eq (by omega) (by omega)] at g3; exact g3.symm
  subst eD
  by_cases z : qin v1 D'
  case neg =>
    refine ⟨1, 0, dp_new M 0 0 6, dp_setI (dp_new M 0 0 6) 114 0 1, wL_cancel_x0 ?_, ?_, rfl, (fun e => by cases e), ⟨(hp0.refused hn 1).1, (hq.refused hn 1).1, (hsx.refused hn 1).1, (RelD.refused ⟨D', A, R, hb0⟩ hn 1).1⟩, ((Off.rr _ _ M).N hn 0 0 6).F 0 (by decide) 1, ⟨Nat.le_refl _, Nat.le_refl _⟩⟩
    · rw [D_X11_cancel_0_den, D_X11_cancel_0_eq, dc_is h2 h1, rb_bi, ibz, if_neg z, q_nk hn]
    · rw [D_X12_cancel_0_den, D_X12_cancel_0_eq, dm_is (by rw [gIN (by omega)]; exact h3) h1, rb_bi, ibz, if_neg z, q_ref, rb_bi]
  have z0 := z
  obtain ⟨i, hi, rfl⟩ := qin_of z (by omega)
  obtain ⟨g, hg, eg⟩ := qin_of (g8 i hi) (by omega)
  have eg' : dp_I M 233 i = nI g := eg
  obtain ⟨x, hx, e2, hbe⟩ := gc_behind (xs := xs) (xl := xl) (M := M) p30 hn1 g2 hG hg
  have e2' : dp_I M 147 g = nI x := e2
  obtain ⟨s, hs5, es⟩ := qin_of (h8 i hi).2.1.2.1 (by omega)
  have es' : dp_I M 241 i = nI s := es
  have m1 : dp_J M 111 (i * 23 + 7) = (dp_I M 241 i).toInt64 := (h8 i hi).2.1.1
  have m0 : dp_J M 111 (i * 23 + 0) = (dp_I M 233 i).toInt64 := (h8 i hi).1.1
  -- the class, up to its goods and state
  have cl : ∀ d, dp_den true xs xl (d + 6) 24 [.ref 108, .int (nI i)] M = if 2 ≤ s then iR 0 M else D_X0_giveUp_29 xs xl (d + 5) (nI i) (nI g) 1 M := fun d => by
    rw [D_X0_giveUp_0_den, D_X0_giveUp_0_eq, dc_small (v2 := 0) (k := 0) (w := nI g) rfl (by omega) (by omega) (by rw [m0, eg']), rb_bi, dc_state (w := nI s) (by omega) (by rw [m1, es']), rb_bi]
    by_cases w0 : s = 0
    · subst w0
      rw [if_pos (show nI 0 = 0 from rfl), if_neg (by omega)]
    · rw [if_neg (nI_n0' (by omega) w0), dc_state (w := nI s) (by omega) (by rw [m1, es']), rb_bi]
      by_cases w1 : s = 1
      · subst w1
        rw [if_pos (show nI 1 = 1 from rfl), if_neg (by omega)]
      · rw [if_neg (fun q => w1 (by rw [show (1 : Int32) = nI 1 from rfl, nI_eq (by omega) (by omega)] at q; exact q)), if_pos (by omega), D_X0_giveUp_29_eq, if_pos rfl]
  have ml : ∀ N d, dp_I N 114 160 = nI D' → dp_I N 241 i = nI s → dp_I N 233 i = nI g → dp_I N 147 g = nI x → dp_den true xs xl (d + 2) 583 [.ref 114, .int (nI i)] N = if 2 ≤ s ∨ dp_I N 144 x = 1 then iR 0 (dp_setI N 114 0 0) else (if dp_I (dp_setI N 114 0 0) 243 i ≤ 0 then (D_X12_cancel_71 xs xl (d + 1) (nI i) (dp_setI N 114 0 0)) else (dp_bv (dp_den true xs xl (d + 1) 530 [.ref 114, .int (dp_I (dp_setI N 114 0 0) 243 i), .int (1 : Int32)] (dp_setI N 114 0 0)) (fun M6 => D_X12_cancel_71 xs xl (d + 1) (nI i) M6))) := fun N d q1 q2 q3 q4 => by
    rw [D_X12_cancel_0_den, D_X12_cancel_0_eq, dm_is q1 h1, rb_bi, ibz, if_pos z0]
    simp only [dp_w, nI_cl (show i < 2147483648 by omega), nI_o (show i < 400 by omega) (by omega), if_false, gII, Nat.reduceEqDiff, q2, q3, nI_cl (show g < 2147483648 by omega), nI_o (show g < 300 by omega) (by omega), q4, nI_cl (show x < 2147483648 by omega), nI_o (show x < 100 by omega) (by omega)]
    by_cases w : 2 ≤ s
    · rw [if_pos (show (1 : Int32) < nI s from nI_lt (a := 1) (by omega) (by omega)), if_pos (Or.inl w)]
    · rw [if_neg (show ¬ (1 : Int32) < nI s from nI_nlt (a := 1) (by omega) (by omega))]
      by_cases w2 : dp_I N 144 x = 1
      · rw [if_pos w2, if_pos (Or.inr w2)]
      · rw [if_neg w2, if_neg (show ¬ (2 ≤ s ∨ dp_I N 144 x = 1) from fun q => q.elim w w2)]
  have zero : ∀ {Z : Option dp_Res}, (2 ≤ s ∨ dp_I M 11 x = 1) → (dp_den true xs xl (d + 6) 24 [.ref 108, .int (nI i)] M = iR 0 M) → ∃ k b M1 M2, dp_den true xs xl (d + 8) 653 [.ref 0, .int (nI i), .ref 245] M = iR k M1 ∧ dp_den true xs xl (d + 8) 583 [.ref 114, .int (nI i)] M1 = iR b M2 ∧
    dp_I M2 114 0 = k ∧ (k = 0 → dp_J M2 245 0 = b.toInt64) ∧ (PR M2 n B T c ∧ RelQ M2 ∧ RelS M2 ∧ RelD M2) ∧ Off Cn_S [0] M M2 ∧ Cst 1 6 M M2 := fun {Z} w1 w2 => by
    refine ⟨0, 0, dp_setJ M 245 0 (0 : Int32).toInt64, dp_setI (dp_setJ M 245 0 (0 : Int32).toInt64) 114 0 0, wL_cancel_ok ?_, ?_, rfl, (fun _ => rfl), ⟨(hp0.looked _).1, (hq.looked _).1, (hsx.looked _).1, (RelD.looked ⟨D', A, R, hb0⟩ _).1⟩, ((Off.rr _ _ M).J 245 (by decide) _ _).F 0 (by decide) _, ⟨Nat.le_add_right _ _, Nat.le_add_right _ _⟩⟩
    · rw [D_X11_cancel_0_den, D_X11_cancel_0_eq, dc_is h2 h1, rb_bi, ibz, if_pos z0, w2, rb_bi, if_pos rfl]
    · rw [ml _ _ (by rw [gIJ]; exact h3) (by rw [gIJ]; exact es') (by rw [gIJ]; exact eg') (by rw [gIJ]; exact e2'), if_pos]
      rw [gIJ]
      rcases w1 with w | w
      · exact Or.inl w
      · exact Or.inr (by have : dp_I M 144 = dp_I M 11 := ew; rw [this]; exact w)
  by_cases y : 2 ≤ s
  · exact zero (Z := none) (Or.inl y) (by rw [cl, if_pos y])
  by_cases y2 : dp_I M 11 x = 1
  · refine zero (Z := none) (Or.inr y2) ?_
    rw [cl, if_neg y, D_X0_giveUp_29_eq, if_neg (by decide), hbe, rb_bi, ibz, if_pos (show dp_I M 11 x = 1 from y2)]
  have hst : dp_I M 241 i = 0 ∨ dp_I M 241 i = 1 := by
    show dp_I M 241 i = 0 ∨ dp_I M 241 i = 1
    rw [es']
    have : s = 0 ∨ s = 1 := by omega
    rcases this with q | q <;> subst q
    · exact Or.inl rfl
    · exact Or.inr rfl
  have s4 : ¬ dp_I M 241 i = 4 := by
    rcases hst with q | q
    · intro w; have q' : dp_I M 241 i = 0 := q; rw [w] at q'; exact absurd q' (by decide)
    · intro w; have q' : dp_I M 241 i = 1 := q; rw [w] at q'; exact absurd q' (by decide)
  obtain ⟨C1, a1, a2, a3, a4⟩ := cn_res (xs := xs) (xl := xl) hsx hb0 hi hst
  obtain ⟨C2, b1, b2, b3, b4⟩ := cn_ask (xs := xs) (xl := xl) (d := d + 1) (M := C1) (A := A) (i := i) (RelQ_off hq a2 (by decide) (by decide)) (by rw [(a2.2.1 111 (by decide)).1]; exact h4) h5 (by omega) ((h8 i hi).2.2.2.c (by rw [(a2.1 109 (by decide) (by decide) (by decide)).1]) (fun a _ => by rw [(a2.1 196 (by decide) (by decide) (by decide)).1]))
  have o2 : Off Cn_S [0] M C2 := (a2.mono (by decide) (by decide)).tr (b2.mono (by decide) (by decide))
  have o2' : Off [75, 81, 85, 86, 87, 88, 89, 90, 95, 96] [] M C2 := (a2.mono (by decide) (by decide)).tr (b2.mono (by decide) (by decide))
  obtain ⟨C3, hC3⟩ : ∃ C3, C3 = dp_setI (dp_setJ C2 111 (i * 23 + 7) 4) 110 g 0 := ⟨_, rfl⟩
  have o3 : Off [75, 81, 85, 86, 87, 88, 89, 90, 95, 96, 110, 111] [] M C3 := by
    rw [hC3]
    exact ((o2'.mono (by decide) (by decide)).J 111 (by decide) _ _).I 110 (by decide) _ _
  obtain ⟨C4, c1, c2, c3, c4⟩ := gc_setFree (xs := xs) (xl := xl) (M := C3) (n := n) (g := g) (G := G) (D := D') (v := 0) (GGd_off p30 o3 (by decide) (by decide)) hn1 (by rw [(o3.2.1 44 (by decide)).1]; exact g2) hG (by rw [(o3.2.1 160 (by decide)).1]; exact h3) h1 hg (Or.inl rfl)
  obtain ⟨N1, hN1⟩ : ∃ N1, N1 = dp_setI (dp_setJ C4 245 0 (1 : Int32).toInt64) 114 0 0 := ⟨_, rfl⟩
  have o4 : Off [45, 47, 110, 111, 245] [0] C2 N1 := by
    rw [hN1]
    refine ((Off.tr ?_ (c2.mono (by decide) (by decide))).J 245 (by decide) _ _).F 0 (by decide) _
    rw [hC3]
    exact ((Off.rr _ _ C2).J 111 (by decide) _ _).I 110 (by decide) _ _
  have o4' : Off [45, 47, 245] [0] C3 N1 := by
    rw [hN1]
    exact ((c2.mono (by decide) (by decide)).J 245 (by decide) _ _).F 0 (by decide) _
  have o14 : Off [45, 47, 75, 81, 85, 86, 87, 88, 89, 110, 111, 245] [0] C1 N1 := (b2.mono (by decide) (by decide)).tr (o4.mono (by decide) (by decide))
  obtain ⟨K1, k1, k2, k3, k4, k5⟩ := a4 N1 (SameS.off o14 (by decide) (by decide)) (by rw [(o14.1 243 (by decide) (by decide) (by decide)).1, (a2.1 243 (by decide) (by decide) (by decide)).1])
  have oK1 : Off [45, 47, 110, 111, 245, 215, 216] [0] C2 K1 := (o4.mono (by decide) (by decide)).tr (k3.mono (by decide) (by decide))
  obtain ⟨K2, l1, l2, l3, l4⟩ := b4 K1 (SameQ.off oK1 (by decide) (by decide)) (by rw [(oK1.1 109 (by decide) (by decide) (by decide)).1, (b2.1 109 (by decide) (by decide) (by decide)).1])
  obtain ⟨K, hK⟩ : ∃ K, K = dp_setI K2 241 i 4 := ⟨_, rfl⟩
  have oK2 : Off [198, 215, 216] [] N1 K2 := (k3.mono (by decide) (by decide)).tr (l3.mono (by decide) (by decide))
  have oNK : Off [198, 215, 216, 241] [] N1 K := by rw [hK]; exact (oK2.mono (by decide) (by decide)).I 241 (by decide) _ _
  have oCK : Off [45, 47, 245, 198, 215, 216, 241] [0] C3 K := (o4'.mono (by decide) (by decide)).tr (oNK.mono (by decide) (by decide))
  have oK : Off Cn_S [0] M K := (o3.mono (by decide) (by decide)).tr (oCK.mono (by decide) (by decide))
  have k241 : dp_I K 241 = uI (dp_I M 241) i 4 := by
    rw [hK, gII, if_pos rfl, (oK2.1 241 (by decide) (by decide) (by decide)).1, (o4'.1 241 (by decide) (by decide) (by decide)).1, (o3.1 241 (by decide) (by decide) (by decide)).1]
  have k233 : dp_I C3 233 = dp_I M 233 := (o3.1 233 (by decide) (by decide) (by decide)).1
  have k241' : dp_I C3 241 = dp_I M 241 := (o3.1 241 (by decide) (by decide) (by decide)).1
  have cst : Cst 0 0 M C4 := by
    have q1 := (a3.tr0 b3)
    have q2 : Cst 0 0 C2 C3 := by rw [hC3]; exact ⟨Nat.le_refl _, Nat.le_refl _⟩
    exact (q1.tr0 q2).tr0 c3
  have cst2 : Cst 0 0 N1 K := by
    have q2 : Cst 0 0 K2 K := by rw [hK]; exact ⟨Nat.le_refl _, Nat.le_refl _⟩
    exact (k4.tr0 l4).tr0 q2
  have cst1 : Cst 0 0 C4 N1 := by rw [hN1]; exact ⟨Nat.le_refl _, Nat.le_refl _⟩
  have k0 : dp_I K 114 0 = 0 := by
    rw [(oNK.2.1 0 (by decide)).1, hN1, gII, if_pos rfl, uI_s]
  refine ⟨0, 1, dp_setJ C4 245 0 (1 : Int32).toInt64, K, wL_cancel_ok ?_, ?_, k0, fun _ => ?_, ⟨⟨?_, ?_, ?_, ?_, ?_, ?_, ?_⟩, ?_, ?_, ⟨D', A, R, ?_⟩⟩, oK, ((cst.tr0 cst1).tr0 cst2).mono (by omega) (by omega)⟩
  · rw [D_X11_cancel_0_den, D_X11_cancel_0_eq, dc_is h2 h1, rb_bi, ibz, if_pos z0, cl, if_neg y, D_X0_giveUp_29_eq, if_neg (by decide), hbe, rb_bi, ibz, if_neg (show ¬ dp_I M 11 x = 1 from y2), a1 (d := d) (X := fun Mx => D_X0_giveUp_75 xs xl (d + 5) (nI i) (nI g) 1 Mx), D_X0_giveUp_75_eq]
    simp only [nI_cl (show i < 2147483648 by omega), nI_o (show i < 400 by omega) (by omega), if_false]
    rw [b1 (X := fun Mx => D_X0_giveUp_100 xs xl (d + 5) (nI i) (nI g) 1 Mx), D_X0_giveUp_100_eq, dc_set (v2 := 7) (k := 7) rfl (by omega) (by omega), rb_bv]
    simp only [nI_cl (show g < 2147483648 by omega), nI_o (show g < 300 by omega) (by omega), if_false, dp_w]
    rw [show (0 : Int32) &&& 1 = 0 from rfl, ← hC3, c1, rb_bv, rb_bi, if_neg one_ne]
  · have eN : ∀ k, k ∉ [45, 47, 110, 111, 245] → k < 246 → k ≠ 114 → dp_I (dp_setJ C4 245 0 (1 : Int32).toInt64) k = dp_I C2 k := fun k q1 q2 q3 => by
      have := (o4.1 k q2 q1 q3).1
      rw [hN1, gII, if_neg q3] at this; exact this
    have eM : ∀ k, k ∉ [75, 81, 85, 86, 87, 88, 89, 90, 95, 96] → k < 246 → k ≠ 114 → dp_I C2 k = dp_I M k := fun k q1 q2 q3 => (o2'.1 k q2 q1 q3).1
    have eD : dp_I (dp_setJ C4 245 0 (1 : Int32).toInt64) 114 160 = nI D' := by
      have := (o4.2.1 160 (by decide)).1
      rw [hN1, gII, if_pos rfl, uI_n (by decide), (o2'.2.1 160 (by decide)).1] at this
      rw [this]; exact h3
    rw [ml _ _ eD (by rw [eN 241 (by decide) (by decide) (by decide), eM 241 (by decide) (by decide) (by decide)]; exact es') (by rw [eN 233 (by decide) (by decide) (by decide), eM 233 (by decide) (by decide) (by decide)]; exact eg') (by rw [eN 147 (by decide) (by decide) (by decide), eM 147 (by decide) (by decide) (by decide)]; exact e2'), if_neg]
    · rw [← hN1, k1 (Y := fun Mx => D_X12_cancel_71 xs xl (d + 7) (nI i) Mx), D_X12_cancel_71_eq]
      simp only [nI_cl (show i < 2147483648 by omega), nI_o (show i < 400 by omega) (by omega), if_false, dp_w]
      rw [l1 (Y := fun Mx => some (.inl (some (.int (1 : Int32))), dp_setI Mx 241 i 4)), ← hK]
    · rw [eN 144 (by decide) (by decide) (by decide), eM 144 (by decide) (by decide) (by decide)]
      intro q
      rcases q with q | q
      · exact y q
      · exact y2 (by have : dp_I M 144 = dp_I M 11 := ew; rw [this] at q; exact q)
  · rw [(oNK.1 245 (by decide) (by decide) (by decide)).2.1, hN1, gJI, gJJ, if_pos rfl, uI_s]
  · exact PHY_off p1 oK (by decide) (by decide)
  · exact GTl_off p2 oK (by decide) (by decide)
  · refine c4 K (fun k hk => ?_) ?_ ?_ ?_ ?_ ?_ (fun q hq hne => ?_) ?_
    · have w : ∀ k ∈ [42, 44, 46, 147, 148, 233], k < 246 ∧ k ∉ [45, 47, 245, 198, 215, 216, 241] ∧ k ≠ 114 := by decide
      exact (oCK.1 k (w k hk).1 (w k hk).2.1 (w k hk).2.2).1
    · rw [(oNK.1 45 (by decide) (by decide) (by decide)).1, hN1, gII, if_neg (by decide), gIJ]
    · rw [(oNK.1 47 (by decide) (by decide) (by decide)).1, hN1, gII, if_neg (by decide), gIJ]
    · rw [(oCK.1 37 (by decide) (by decide) (by decide)).1]
    · rw [(oCK.2.1 44 (by decide)).1]
    · rw [(oCK.2.1 160 (by decide)).1]
    · rw [k233, k241', k241]
      refine an_c (fun j hj => ?_)
      by_cases w : j = i
      · subst w
        have q1 : ∀ st, frf (dp_I M 233) st q j = false := fun st => Bool.eq_false_iff.mpr (fun r => by
          have := (frf_t.mp r).1
          rw [eg', nI_eq (by omega) (by omega)] at this
          exact hne this.symm)
        rw [q1, q1]
      · unfold frf; rw [uI_n w]
    · rw [k233, k241, bI_f]
      intro q
      obtain ⟨j, j1, j2⟩ := an_iff.mp q
      obtain ⟨q1, q2⟩ := frf_t.mp j2
      by_cases w : j = i
      · subst w; rw [uI_s] at q2; exact absurd q2 (by decide)
      · rw [uI_n w] at q2
        exact w (h14 j i j1 hi (fun e => by have e' : dp_I M 241 j = 4 := e; rw [e'] at q2; exact absurd q2 (by decide)) s4 (by rw [q1]; exact eg.symm))
  · exact GBr_off p4 oK (by decide)
  · exact GLd_off p5 oK (by decide)
  · exact GRl_off p6 oK (by decide)
  · exact GRu_off p7 oK (by decide)
  · exact RelQ_off l2 (show Off [241] [] K2 K by rw [hK]; exact (Off.rr _ _ K2).I 241 (by decide) _ _) (by decide) (by decide)
  · exact RelS_off k2 (show Off [198, 241] [] K1 K by rw [hK]; exact (l3.mono (by decide) (by decide)).I 241 (by decide) _ _) (by decide) (by decide)
  · refine hb0.cancel (g := g) hi hst eg (by omega) ?_ k241 ?_ (fun k hk => ?_) (fun k hk => ?_) ?_ (fun q hq => ?_) (fun j hj hne hj1 q hq1 hq2 hq3 => ?_)
    · rw [(oCK.1 111 (by decide) (by decide) (by decide)).2.1, hC3, gJI, gJJ, if_pos rfl, (o2'.1 111 (by decide) (by decide) (by decide)).2.1]
    · rw [(oCK.1 110 (by decide) (by decide) (by decide)).1, hC3, gII, if_pos rfl, gIJ, (o2'.1 110 (by decide) (by decide) (by decide)).1]
    · have w : ∀ k ∈ [109, 196, 233, 234, 235, 236, 237, 238, 243, 244], k < 246 ∧ k ∉ Cn_S ∧ k ≠ 114 := by decide
      exact (oK.1 k (w k hk).1 (w k hk).2.1 (w k hk).2.2).1
    · have w : ∀ k ∈ [239, 240, 242], k < 246 ∧ k ∉ Cn_S ∧ k ≠ 114 := by decide
      exact (oK.1 k (w k hk).1 (w k hk).2.1 (w k hk).2.2).2.1
    · rw [(oK.1 108 (by decide) (by decide) (by decide)).1]
    · have w : ∀ q ∈ RelD_T, q ∉ [0] := by decide
      exact (oK.2.1 q (w q hq)).1
    · have e215 : dp_I K 215 = dp_I K1 215 := by rw [hK, gII, if_neg (by decide), (l3.1 215 (by decide) (by decide) (by decide)).1]
      have e96 : dp_J K 96 = dp_J K1 96 := by rw [hK, gJI, (l3.1 96 (by decide) (by decide) (by decide)).2.1]
      have ne : ¬ dp_I M 243 i = nI q := fun w => by
        have hi1 : dp_I M 241 i = 1 := by
          rcases hst with q0 | q1
          · have := ((h8 i hi).2.1.2.2.2.2.2.2.2.1 q0).2
            have t : dp_I M 243 i = 0 := this
            rw [t, show (0 : Int32) = nI 0 from rfl, nI_eq (by omega) (by omega)] at w
            omega
          · exact q1
        refine hne (h12 i j hi hj hi1 hj1 ?_ ?_).symm
        · show ¬ dp_I M 243 i = 0
          rw [w]; exact nI_n0' (by omega) (by omega)
        · show dp_I M 243 i = dp_I M 243 j
          rw [w]; exact hq1.symm
      rw [e96]
      exact ⟨by show dp_I K 215 q = dp_I M 215 q; rw [e215]; exact (k5 q hq3 ne).1, (k5 q hq3 ne).2⟩
end DO
