-- needs: 71 72 73 74 75 76 77 78 79
/-! ASSESS: side by side -/
section DuN
variable {xs : Nat → Int32} {xl d : Nat} {M : dp_M}
def Ae_S : List Nat := 45 :: 47 :: 90 :: 92 :: 93 :: 95 :: 96 :: 111 :: 214 :: 216 :: 217 :: 218 :: 219 :: 220 :: 241 :: 242 :: 243 :: Du_S
def Ae_T : List Nat := 133 :: Du_T
theorem s_assess {n B T c : Nat} (hp : PR M n B T c) (hq : RelQ M) (ht : RelT M) (hr : RelR M) (hs : RelS M) (hd : RelD M) (v1 v2 : Int32) : ∃ k b M1 M2, dp_den true xs xl (d + 12) 649 [.ref 0, .int v1, .int v2, .ref 245] M = iR k M1 ∧ dp_den true xs xl (d + 12) 577 [.ref 114, .int v1, .int v2] M1 = lR b M2 ∧
    dp_I M2 114 0 = k ∧ (k = 0 → dp_J M2 245 0 = b) ∧ (PR M2 n B T c ∧ RelQ M2 ∧ RelT M2 ∧ RelR M2 ∧ RelS M2 ∧ RelD M2) ∧ Off Ae_S Ae_T M M2 ∧ Cst 1 6 M M2 := by
  have hn := hr.1
  have hd0 := hd
  obtain ⟨D, A, R, hb⟩ := hd
  have hb0 := hb
  obtain ⟨h1, h2, h3, h4, h5, h6, h7, h8, -⟩ := hb
  have hs7 : ∀ i, i < D → dp_J M 111 (i * 23 + 7) = (dp_I M 241 i).toInt64 := fun i hi => (h8 i hi).2.1.1
  have n114 : ∀ q, dp_I (dp_new M 0 0 6) 114 q = dp_I M 114 q := fun q => by rw [gIN (by omega)]
  obtain ⟨hn1, -⟩ := hp.bx
  -- where nothing but what the reckoning touches changes
  have all : ∀ N, Off Du_S Du_T M N → (∀ g, g < 3 → dp_I N 51 g = dp_I M 51 g) → PR N n B T c ∧ RelQ N ∧ RelT N ∧ RelR N ∧ RelS N ∧ RelD N := fun N o h51 => by
    obtain ⟨a, b, e, f⟩ := du_off hq ht hr hd0 o h51
    exact ⟨PR_off hp o (by decide) (by decide), a, b, e, RelS_off hs o (by decide) (by decide), f⟩
  by_cases z : (qin v1 D ∧ dp_I M 241 v1.toNatClampNeg = 0) ∧ qin v2 10001
  case neg =>
    have oo : Off Du_S Du_T M (dp_setI (dp_new M 0 0 6) 114 0 1) := ((Off.rr _ _ M).N hn 0 0 6).F 0 (by decide) 1
    refine ⟨1, 0, dp_new M 0 0 6, dp_setI (dp_new M 0 0 6) 114 0 1, wL_assess_x0 ?_, ?_, rfl, (fun e => by cases e), all _ oo (fun g _ => by rw [gII, if_neg (by decide), gIN (by omega)]), oo.mono (by decide) (by decide), ⟨Nat.le_refl _, Nat.le_refl _⟩⟩
    · rw [D_X11_assess_0_den, D_X11_assess_0_eq, dc_in h2 h1 hs7, rb_bi, ibz]
      by_cases y : qin v1 D ∧ dp_I M 241 v1.toNatClampNeg = 0
      · rw [if_pos y, tc_day, rb_bi, ibz, if_neg (fun q => z ⟨y, q⟩), q_nk hn]
      · rw [if_neg y, q_nk hn]
    · have e241 : dp_I (dp_new M 0 0 6) 241 = dp_I M 241 := gIN (by omega)
      rw [D_X12_assess_0_den, D_X12_assess_0_eq, dm_in (by rw [n114]; exact h3) h1, rb_bi, ibz, e241]
      by_cases y : qin v1 D ∧ dp_I M 241 v1.toNatClampNeg = 0
      · rw [if_pos y, tm_day, rb_bi, ibz, if_neg (fun q => z ⟨y, q⟩), q_ref, rb_bi]; rfl
      · rw [if_neg y, q_ref, rb_bi]; rfl
  obtain ⟨z1, z2⟩ := z
  have z1' := z1
  obtain ⟨z11, z12⟩ := z1
  obtain ⟨i, hi, rfl⟩ := qin_of z11 (by omega)
  have hst : dp_I M 241 i = 0 := by rw [nI_cl (by omega)] at z12; exact z12
  have i4 : i < 400 := by omega
  have ni : ¬ (nI i < 0 ∨ 400 ≤ i) := by rw [nI_o i4 (by omega)]; exact id
  obtain ⟨v, M1, c1, c2, c3, c4, c5, c6⟩ := s_reck (xs := xs) (xl := xl) (d := d + 3) (e' := d) hq ht hr hb0 hi v2
  have hn1' : 246 ≤ dp_n M1 := c2.ng hn
  have oc : Off Du_S Du_T M M1 := c2.mono (by decide) (by decide)
  have cl : dp_den true xs xl (d + 11) 353 [.ref 0, .int (nI i), .int v2] M = if v = -1 then some (.inr 3, dp_new M1 0 0 6) else (dp_bl (dp_den true xs xl (d + 10) 18 [.ref 108, .int (nI i), .long v] M1) (fun r8 M7 => some (.inl (some (.long r8)), M7))) := by
    rw [D_X11_assess_0_den, D_X11_assess_0_eq, dc_in h2 h1 hs7, rb_bi, ibz, if_pos z1', tc_day, rb_bi, ibz, if_pos z2, c1, rb_bl, q_nk hn1']
    by_cases y : v = -1
    · rw [if_pos ((lg_cmp_eq _ _).mpr y), if_pos y]
    · rw [if_neg (fun w => y ((lg_cmp_eq _ _).mp w)), if_neg y]
  have ml : ∀ N, dp_I N 114 160 = nI D → dp_I N 241 i = 0 → dp_den true xs xl (d + 12) 577 [.ref 114, .int (nI i), .int v2] N = dp_bl (dp_den true xs xl (d + 11) 575 [.ref 114, .int (nI i), .int v2] N) (fun r10 M9 => if 0 ≤ (lg_cmp r10 (0 : Int64)) then asT xs xl (d + 11) i v2 r10 (dp_setI M9 114 0 0) else (dp_bi (dp_den true xs xl (d + 11) 366 [.ref 114, .int (2 : Int32)] M9) (fun r15 M14 => some (.inl (some (.long (Int32.toInt64 r15))), M14)))) := fun N e e2 => by
    rw [D_X12_assess_0_den, D_X12_assess_0_eq, dm_in e h1, rb_bi, ibz, if_pos ⟨z11, by rw [nI_cl (by omega)]; exact e2⟩, tm_day, rb_bi, ibz, if_pos z2]
    unfold asT
    simp only [dp_w, nI_cl (show i < 2147483648 by omega), if_neg ni]
  have m160 : dp_I M1 114 160 = nI D := (c2.2.1 160 (by simp)).1.trans h3
  have m241 : dp_I M1 241 i = 0 := by
    have e : dp_I M1 241 = dp_I M 241 := (c2.1 241 (by decide) (by decide) (by decide)).1
    show dp_I M1 241 i = 0
    rw [e]; exact hst
  by_cases y : v = -1
  · have oX : Off Du_S Du_T M1 (dp_new M1 0 0 6) := (Off.rr _ _ M1).N hn1' 0 0 6
    obtain ⟨N', r1, r2, r3⟩ := c6 [] [] (dp_new M1 0 0 6) ((Off.rr _ _ M1).N hn1' 0 0 6) (by decide) (by decide)
    have oo : Off Du_S Du_T M (dp_setI N' 114 0 2) := ((oc.tr oX).tr (r2.mono (by decide) (by decide))).F 0 (by decide) _
    refine ⟨2, 0, dp_new M1 0 0 6, dp_setI N' 114 0 2, wL_assess_x3 (by rw [cl, if_pos y]), ?_, by rw [gII, if_pos rfl, uI_s], (fun e => by cases e), all _ oo (fun g hg => ?_), oo.mono (by decide) (by decide), ?_⟩
    · rw [ml _ (by rw [gIN (by omega)]; exact m160) (by rw [gIN (by omega)]; exact m241), r1, rb_bl, y, if_neg (by decide), q_ref, rb_bi]; rfl
    · rw [gII, if_neg (by decide), (r2.1 51 (by decide) (by decide) (by decide)).1, gIN (by omega)]; exact c4 g hg
    · have n1 : dp_n (dp_new M1 0 0 6) = dp_n M1 + 1 := rfl
      have n2 : dp_z (dp_new M1 0 0 6) = dp_z M1 + 6 := rfl
      have e1 := c3.1; have e2 := c3.2; have e3 := r3.1; have e4 := r3.2
      exact ⟨show dp_n N' ≤ dp_n M + 1 by omega, show dp_z N' ≤ dp_z M + 6 by omega⟩
  · have vb := c5.resolve_left y
    have vn : (0 : Int64) ≤ v := by rw [Int64.le_iff_toInt_le]; exact vb.1
    obtain ⟨hp1, hq1, ht1, hr1, hs1, hd1⟩ := all M1 oc c4
    have hb1 : DBd M1 D A R := DBd_off hb0 c2 (by decide) (by decide)
    obtain ⟨w, C, x1, x2, x3, x4⟩ := s_secure (xs := xs) (xl := xl) (v2 := v2) hp1.2.2.1 hn1 hs1 hb1 hi m241 vb.1 vb.2
    obtain ⟨N0, hN0⟩ : ∃ N0, N0 = dp_setJ C 245 0 w := ⟨_, rfl⟩
    have oC0 : Off [245] [] C N0 := by rw [hN0]; exact (Off.rr _ _ C).J 245 (by decide) _ _
    have o10 : Off (245 :: Sc_S) [] M1 N0 := (x2.mono (by decide) (by decide)).tr (oC0.mono (by decide) (by decide))
    obtain ⟨N1, r1, r2, r3⟩ := c6 _ _ N0 o10 (by decide) (by decide)
    obtain ⟨N2, hN2⟩ : ∃ N2, N2 = dp_setI N1 114 0 0 := ⟨_, rfl⟩
    have oC2 : Off (245 :: Mr_S) (0 :: Mr_T) C N2 := by rw [hN2]; exact ((oC0.mono (by decide) (by decide)).tr (r2.mono (by decide) (by decide))).F 0 (by decide) _
    obtain ⟨K, k1, k2, k3, k4, k5, k6⟩ := x4 _ _ N2 oC2 (by decide) (by decide)
    have oo : Off Ae_S Ae_T M K := (((oc.mono (by decide) (by decide)).tr (x2.mono (by decide) (by decide))).tr (oC2.mono (by decide) (by decide))).tr (k2.mono (by decide) (by decide))
    have k51 : ∀ g, g < 3 → dp_I K 51 g = dp_I M 51 g := fun g hg => by
      rw [(k2.1 51 (by decide) (by decide) (by decide)).1, (oC2.1 51 (by decide) (by decide) (by decide)).1, (x2.1 51 (by decide) (by decide) (by decide)).1]; exact c4 g hg
    obtain ⟨p1, p2, p3, p4, p5, p6, p7⟩ := hp
    refine ⟨0, w, N0, K, by rw [hN0]; exact wL_assess_ok (by rw [cl, if_neg y, x1 (d := d + 4), rb_bl]), ?_, ?_, fun _ => ?_, ⟨⟨PHY_off p1 oo (by decide) (by decide), GTl_off p2 oo (by decide) (by decide), k4, GBr_off p4 oo (by decide), GLd_off p5 oo (by decide), GRl_off p6 oo (by decide), GRu_off p7 oo (by decide)⟩, hq.scr oo (by decide) (by decide), ht.scr oo (by decide) (by decide) k51, RelR_off hr oo (by decide) (by decide), k5, k6⟩, oo, ?_⟩
    · have e160 : dp_I N0 114 160 = nI D := (o10.2.1 160 (by simp)).1.trans m160
      have e241 : dp_I N0 241 i = 0 := by
        have e : dp_I N0 241 = dp_I M1 241 := (o10.1 241 (by decide) (by decide) (by decide)).1
        show dp_I N0 241 i = 0
        rw [e]; exact m241
      rw [ml _ e160 e241, r1, rb_bl, if_pos ((lg_cmp_ge _ _).mpr vn), ← hN2]
      exact k1 (d := d + 5)
    · rw [(k2.2.1 0 (by decide)).1, hN2, gII, if_pos rfl, uI_s]
    · rw [(k2.1 245 (by decide) (by decide) (by decide)).2.1, hN2, gJI, (r2.1 245 (by decide) (by decide) (by decide)).2.1, hN0, gJJ, if_pos rfl, uI_s]
    · have n1 : dp_n N0 = dp_n C ∧ dp_z N0 = dp_z C := by rw [hN0]; exact ⟨rfl, rfl⟩
      have n2 : dp_n N2 = dp_n N1 ∧ dp_z N2 = dp_z N1 := by rw [hN2]; exact ⟨rfl, rfl⟩
      have e1 := c3.1; have e2 := c3.2; have e3 := x3.1; have e4 := x3.2; have e5 := r3.1; have e6 := r3.2; have e7 := k3.1; have e8 := k3.2
      exact ⟨by omega, by omega⟩
end DuN
