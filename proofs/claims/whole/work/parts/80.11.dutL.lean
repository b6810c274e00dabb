-- needs: 71 72 73 74 75 76 77 78 79
/-! CORRECT: side by side -/
section DuO
variable {xs : Nat → Int32} {xl d : Nat} {M : dp_M}
/-- a duty is set right -/
theorem DBd.corr {K : dp_M} {D A R i : Nat} {v : Int64} (h : DBd M D A R) (hi : i < D) (hst : dp_I M 241 i = 2 ∨ dp_I M 241 i = 3) (v0 : 0 ≤ v.toInt) (v1 : v.toInt ≤ 1000000000) (k8 : dp_J K 111 (i * 23 + 8) = v) (k10 : dp_J K 111 (i * 23 + 10) = (dp_I K 244 i).toInt64) (t : ∀ j k, k < 23 → (j ≠ i ∨ (k ≠ 8 ∧ k ≠ 10)) → dp_J K 111 (j * 23 + k) = dp_J M 111 (j * 23 + k)) (k242 : dp_J K 242 = uI (dp_J M 242) i v) (k244 : ∀ j, j ≠ i → dp_I K 244 j = dp_I M 244 j) (sI : ∀ k ∈ [109, 110, 196, 215, 233, 234, 235, 236, 237, 238, 241, 243], dp_I K k = dp_I M k) (sJ : ∀ k ∈ [96, 239, 240], dp_J K k = dp_J M k) (k108 : dp_I K 108 5 = dp_I M 108 5) (f : ∀ q ∈ RelD_T, dp_I K 114 q = dp_I M 114 q) : DBd K D A R := by
  obtain ⟨h1, h2, h3, h4, h5, h6, h7, h8, h9, h10, h11, h12, h13, h14⟩ := h
  refine ⟨h1, by rw [k108]; exact h2, by rw [f 160 (by decide)]; exact h3, by rw [f 111 (by decide)]; exact h4, h5, by rw [f 133 (by decide)]; exact h6, h7, fun j hj => ?_, fun j hj1 hj2 => ?_, fun a ha => by rw [sI 196 (by decide)]; exact h10 a ha, by rw [sI 110 (by decide), sI 233 (by decide), sI 241 (by decide)]; exact h11, by rw [sI 241 (by decide), sI 243 (by decide)]; exact h12, by rw [sI 241 (by decide)]; exact h13, by rw [sI 233 (by decide), sI 241 (by decide)]; exact h14⟩
  · obtain ⟨k1, k2, k3, k4⟩ := h8 j hj
    refine ⟨?_, ?_, fun u hu => ?_, k4.c (by rw [sI 109 (by decide)]) (fun a _ => by rw [sI 196 (by decide)])⟩
    · unfold DFa at k1 ⊢
      rw [t j 0 (by omega) (by omega), t j 1 (by omega) (by omega), t j 2 (by omega) (by omega), t j 3 (by omega) (by omega), t j 4 (by omega) (by omega), t j 5 (by omega) (by omega), t j 6 (by omega) (by omega), sI 233 (by decide), sI 234 (by decide), sI 235 (by decide), sI 236 (by decide), sI 237 (by decide), sI 238 (by decide), sJ 239 (by decide)]; exact k1
    · obtain ⟨m1, m2, m3, m4, m5, m6, m7, m8, m9⟩ := k2
      by_cases z : j = i
      · subst z
        have hst' : dp_I M 241 j = 2 ∨ dp_I M 241 j = 3 := hst
        unfold DSt
        rw [k8, k10, t j 7 (by omega) (by omega), t j 9 (by omega) (by omega), sI 241 (by decide), k242, uI_s, sI 243 (by decide)]
        refine ⟨m1, m2, rfl, v0, v1, m6, ⟨rfl, fun q => ?_⟩, fun q => ?_, fun q => ?_⟩
        · exfalso; rcases hst' with w | w <;> rw [w] at q <;> exact absurd q (by decide)
        · exfalso; rcases hst' with w | w <;> rw [w] at q <;> exact absurd q (by decide)
        · exfalso; rcases hst' with w | w <;> rw [w] at q <;> exact absurd q (by decide)
      · unfold DSt
        rw [t j 7 (by omega) (by omega), t j 8 (by omega) (Or.inl z), t j 9 (by omega) (by omega), t j 10 (by omega) (Or.inl z), sI 241 (by decide), k242, uI_n z, sI 243 (by decide), k244 j z, sI 215 (by decide), sJ 96 (by decide)]
        exact ⟨m1, m2, m3, m4, m5, m6, m7, m8, m9⟩
    · rw [t j _ (by omega) (by omega), sJ 240 (by decide)]; exact k3 u hu
  · obtain ⟨x1, x2, x3, x4, x5, x6, x7⟩ := h9 j hj1 hj2
    unfold DNw
    rw [t j 7 (by omega) (by omega), t j 8 (by omega) (by omega), t j 9 (by omega) (by omega), sI 241 (by decide), sI 243 (by decide), k242, uI_n (by omega), sJ 240 (by decide)]
    exact ⟨x1, x2, x3, x4, x5, x6, x7⟩
def Cr_S : List Nat := 97 :: 100 :: 101 :: 102 :: 103 :: 104 :: 111 :: 221 :: 222 :: 223 :: 224 :: 225 :: 226 :: 227 :: 228 :: 229 :: 230 :: 242 :: 244 :: Du_S
def Cr_T : List Nat := 141 :: 142 :: 144 :: Du_T
theorem s_correct {n B T c : Nat} (hp : PR M n B T c) (hl : RelL M) (hq : RelQ M) (ht : RelT M) (hr : RelR M) (hs : RelS M) (hd : RelD M) (v1 v2 : Int32) : ∃ k b M1 M2, dp_den true xs xl (d + 12) 652 [.ref 0, .int v1, .int v2, .ref 245] M = iR k M1 ∧ dp_den true xs xl (d + 12) 582 [.ref 114, .int v1, .int v2] M1 = lR b M2 ∧
    dp_I M2 114 0 = k ∧ (k = 0 → dp_J M2 245 0 = b) ∧ (PR M2 n B T c ∧ RelL M2 ∧ RelQ M2 ∧ RelT M2 ∧ RelR M2 ∧ RelS M2 ∧ RelD M2) ∧ Off Cr_S Cr_T M M2 ∧ Cst 1 6 M M2 := by
  have hn := hr.1
  have hd0 := hd
  obtain ⟨D, A, R, hb⟩ := hd
  have hb0 := hb
  obtain ⟨h1, h2, h3, h4, h5, h6, h7, h8, -⟩ := hb
  have hl0 := hl
  obtain ⟨Bt, E, hB8, hE4, a1, a2, a3, a4, a5, a6, -⟩ := hl
  have hs7 : ∀ i, i < D → dp_J M 111 (i * 23 + 7) = (dp_I M 241 i).toInt64 := fun i hi => (h8 i hi).2.1.1
  have n114 : ∀ q, dp_I (dp_new M 0 0 6) 114 q = dp_I M 114 q := fun q => by rw [gIN (by omega)]
  have all : ∀ N, Off Du_S Du_T M N → (∀ g, g < 3 → dp_I N 51 g = dp_I M 51 g) → PR N n B T c ∧ RelL N ∧ RelQ N ∧ RelT N ∧ RelR N ∧ RelS N ∧ RelD N := fun N o h51 => by
    obtain ⟨a, b, e, f⟩ := du_off hq ht hr hd0 o h51
    exact ⟨PR_off hp o (by decide) (by decide), RelL_off hl0 o (by decide) (by decide), a, b, e, RelS_off hs o (by decide) (by decide), f⟩
  -- the two tests of the state
  have cst : ∀ {d}, dp_den true xs xl (d + 6) 356 [.ref 0, .int v1, .int v2] M = if (qin v1 D ∧ (dp_I M 241 v1.toNatClampNeg = 2 ∨ dp_I M 241 v1.toNatClampNeg = 3)) then D_X11_correct_23 xs xl (d + 5) v1 v2 1 M else some (.inr 0, dp_new M 0 0 6) := fun {d} => by
    rw [D_X11_correct_0_den, D_X11_correct_0_eq, dc_in h2 h1 hs7, rb_bi, ibz]
    by_cases y : qin v1 D ∧ dp_I M 241 v1.toNatClampNeg = 2
    · rw [if_pos y, if_pos ⟨y.1, Or.inl y.2⟩]
    · rw [if_neg y, dc_in h2 h1 hs7, rb_bi, ibz]
      by_cases y3 : qin v1 D ∧ dp_I M 241 v1.toNatClampNeg = 3
      · rw [if_pos y3, if_pos ⟨y3.1, Or.inr y3.2⟩]
      · rw [if_neg y3, if_neg (fun q => q.2.elim (fun w => y ⟨q.1, w⟩) (fun w => y3 ⟨q.1, w⟩)), D_X11_correct_23_eq, if_pos rfl, q_nk hn]
  have mst : ∀ {d} N, dp_I N 114 160 = nI D → dp_I N 241 = dp_I M 241 → dp_den true xs xl (d + 4) 582 [.ref 114, .int v1, .int v2] N = if (qin v1 D ∧ (dp_I M 241 v1.toNatClampNeg = 2 ∨ dp_I M 241 v1.toNatClampNeg = 3)) then D_X12_correct_18 xs xl (d + 3) v1 v2 N else lR 0 (dp_setI N 114 0 1) := fun {d} N e1 e2 => by
    rw [D_X12_correct_0_den, D_X12_correct_0_eq, dm_in e1 h1, rb_bi, ibz, e2]
    by_cases y : qin v1 D ∧ dp_I M 241 v1.toNatClampNeg = 2
    · rw [if_pos y, if_pos ⟨y.1, Or.inl y.2⟩]
    · rw [if_neg y, dm_in e1 h1, rb_bi, ibz, e2]
      by_cases y3 : qin v1 D ∧ dp_I M 241 v1.toNatClampNeg = 3
      · rw [if_pos y3, if_pos ⟨y3.1, Or.inr y3.2⟩]
      · rw [if_neg y3, if_neg (fun q => q.2.elim (fun w => y ⟨q.1, w⟩) (fun w => y3 ⟨q.1, w⟩)), q_ref, rb_bi]; rfl
  by_cases z : (qin v1 D ∧ (dp_I M 241 v1.toNatClampNeg = 2 ∨ dp_I M 241 v1.toNatClampNeg = 3)) ∧ qin v2 10001
  case neg =>
    have oo : Off Du_S Du_T M (dp_setI (dp_new M 0 0 6) 114 0 1) := ((Off.rr _ _ M).N hn 0 0 6).F 0 (by decide) 1
    refine ⟨1, 0, dp_new M 0 0 6, dp_setI (dp_new M 0 0 6) 114 0 1, wL_correct_x0 ?_, ?_, rfl, (fun e => by cases e), all _ oo (fun g _ => by rw [gII, if_neg (by decide), gIN (by omega)]), oo.mono (by decide) (by decide), ⟨Nat.le_refl _, Nat.le_refl _⟩⟩
    · rw [cst (d := d + 5)]
      by_cases y : qin v1 D ∧ (dp_I M 241 v1.toNatClampNeg = 2 ∨ dp_I M 241 v1.toNatClampNeg = 3)
      · rw [if_pos y, D_X11_correct_23_eq, if_neg (by decide), tc_day, rb_bi, ibz, if_neg (fun q => z ⟨y, q⟩), q_nk hn]
      · rw [if_neg y]
    · rw [mst (d := d + 8) _ (by rw [n114]; exact h3) (gIN (by omega))]
      by_cases y : qin v1 D ∧ (dp_I M 241 v1.toNatClampNeg = 2 ∨ dp_I M 241 v1.toNatClampNeg = 3)
      · rw [if_pos y, D_X12_correct_18_eq, tm_day, rb_bi, ibz, if_neg (fun q => z ⟨y, q⟩), q_ref, rb_bi]; rfl
      · rw [if_neg y]
  obtain ⟨z1, z2⟩ := z
  have z1' := z1
  obtain ⟨z11, z12⟩ := z1
  obtain ⟨i, hi, rfl⟩ := qin_of z11 (by omega)
  have hst : dp_I M 241 i = 2 ∨ dp_I M 241 i = 3 := by rw [nI_cl (by omega)] at z12; exact z12
  have i4 : i < 400 := by omega
  have ni : ¬ (nI i < 0 ∨ 400 ≤ i) := by rw [nI_o i4 (by omega)]; exact id
  obtain ⟨k1, k2, k3, k4⟩ := h8 i hi
  obtain ⟨m1, m2, m3, m4, m5, m6, m7, m8, m9⟩ := k2
  have m3' : dp_J M 111 (i * 23 + 8) = dp_J M 242 i := m3
  have m4' : 0 ≤ (dp_J M 242 i).toInt := m4
  have m5' : (dp_J M 242 i).toInt ≤ 1000000000 := m5
  obtain ⟨v, M1, c1, c2, c3, c4, c5, c6⟩ := s_reck (xs := xs) (xl := xl) (d := d + 3) (e' := d) hq ht hr hb0 hi v2
  have hn1 : 246 ≤ dp_n M1 := c2.ng hn
  have oc : Off Du_S Du_T M M1 := c2.mono (by decide) (by decide)
  have e111 : dp_J M1 111 = dp_J M 111 := (c2.1 111 (by decide) (by decide) (by decide)).2.1
  have t8 : dp_J M1 111 (i * 23 + 8) = dp_J M 242 i := by rw [e111]; exact m3'
  have lM1 : RelL M1 := RelL_off hl0 c2 (by decide) (by decide)
  have tk : (Bt < 800 ∧ dp_I M1 97 2 < v2 ∧ dp_I M1 97 3 ≤ v2 ∧ E + 2 ≤ 4000) ↔ (Bt < 800 ∧ dp_I M1 114 143 < v2 ∧ dp_I M1 114 144 ≤ v2 ∧ E + 2 ≤ 4000) := by
    have e97 : dp_I M1 97 = dp_I M 97 := (c2.1 97 (by decide) (by decide) (by decide)).1
    rw [e97, (c2.2.1 143 (by simp)).1, (c2.2.1 144 (by simp)).1, a5, a6]
  have cl : dp_den true xs xl (d + 11) 356 [.ref 0, .int (nI i), .int v2] M = if v = -1 then some (.inr 3, dp_new M1 0 0 6) else if v = dp_J M 242 i ∨ (Bt < 800 ∧ dp_I M1 97 2 < v2 ∧ dp_I M1 97 3 ≤ v2 ∧ E + 2 ≤ 4000) then dp_bl (dp_den true xs xl (d + 10) 23 [.ref 108, .int (nI i), .long v, .int v2] M1) (fun r8 M7 => some (.inl (some (.long r8)), M7)) else some (.inr 1, dp_new M1 0 0 6) := by
    have e97 : dp_I M1 97 = dp_I M 97 := (c2.1 97 (by decide) (by decide) (by decide)).1
    rw [cst (d := d + 5), if_pos z1', D_X11_correct_23_eq, if_neg (by decide), tc_day, rb_bi, ibz, if_pos z2, c1, rb_bl, q_nk hn1]
    by_cases y : v = -1
    · rw [if_pos ((lg_cmp_eq _ _).mpr y), if_pos y]
    · rw [if_neg (fun w => y ((lg_cmp_eq _ _).mp w)), if_neg y, dc_duty (d := d + 8) i4, rb_bl]
      show (if lg_cmp v (dp_J M1 111 (i * 23 + 8)) = 0 then _ else _) = _
      rw [t8]
      by_cases y2 : v = dp_J M 242 i
      · rw [if_pos ((lg_cmp_eq _ _).mpr y2), if_pos (Or.inl y2)]
      · rw [if_neg (fun w => y2 ((lg_cmp_eq _ _).mp w)), lc_take (v1 := 2) (n := 2) (B := Bt) (E := E) rfl (by rw [e97]; exact a1) hB8 (by rw [e97]; exact a3) hE4 (by omega), rb_bi, ibz, q_nk hn1]
        by_cases y3 : Bt < 800 ∧ dp_I M1 97 2 < v2 ∧ dp_I M1 97 3 ≤ v2 ∧ E + 2 ≤ 4000
        · rw [if_pos y3, if_pos (Or.inr y3)]
        · rw [if_neg y3, if_neg (fun q => q.elim y2 y3)]
  have ml : ∀ N, dp_I N 114 160 = nI D → dp_I N 241 = dp_I M 241 → dp_den true xs xl (d + 12) 582 [.ref 114, .int (nI i), .int v2] N = dp_bl (dp_den true xs xl (d + 11) 575 [.ref 114, .int (nI i), .int v2] N) (fun r6 M5 => if 0 ≤ (lg_cmp r6 (0 : Int64)) then (if (lg_cmp (r6 - (dp_J M5 242 i)) (0 : Int64)) = 0 then lR (r6 - (dp_J M5 242 i)) (dp_setI M5 114 0 0) else (dp_bi (dp_den true xs xl (d + 11) 578 [.ref 114, .int (nI i), .int v2] M5) (fun r10 M9 => if r10 = 0 then lR 0 (dp_setI M9 114 0 3) else (dp_bv (dp_den true xs xl (d + 11) 545 [.ref 114, .int (dp_I M9 114 141), .int (dp_I M9 234 i), .long (-(r6 - (dp_J M5 242 i)))] M9) (fun M13 => dp_bv (dp_den true xs xl (d + 11) 545 [.ref 114, .int (dp_I M13 114 141), .int (8 : Int32), .long (r6 - (dp_J M5 242 i))] M13) (fun M14 => dp_bi (dp_den true xs xl (d + 11) 579 [.ref 114, .int (nI i)] M14) (fun r16 M15 => if r16 = 0 then lR 0 (dp_setI M15 114 0 3) else lR (r6 - (dp_J M5 242 i)) (dp_setI (dp_setJ M15 242 i r6) 114 0 0)))))))) else lR 0 (dp_setI M5 114 0 2)) := fun N e1 e2 => by
    rw [mst (d := d + 8) N e1 e2, if_pos z1', D_X12_correct_18_eq, tm_day, rb_bi, ibz, if_pos z2]
    simp only [nI_cl (show i < 2147483648 by omega), if_neg ni, dp_w, q_ref, rb_bi]
    rfl
  have m160 : dp_I M1 114 160 = nI D := (c2.2.1 160 (by simp)).1.trans h3
  have e241 : dp_I M1 241 = dp_I M 241 := (c2.1 241 (by decide) (by decide) (by decide)).1
  have e242 : dp_J M1 242 = dp_J M 242 := (c2.1 242 (by decide) (by decide) (by decide)).2.1
  have z0 : (0 : Int64).toInt = 0 := by decide
  by_cases y : v = -1
  · have oX : Off Du_S Du_T M1 (dp_new M1 0 0 6) := (Off.rr _ _ M1).N hn1 0 0 6
    obtain ⟨N', r1, r2, r3⟩ := c6 [] [] (dp_new M1 0 0 6) ((Off.rr _ _ M1).N hn1 0 0 6) (by decide) (by decide)
    have oo : Off Du_S Du_T M (dp_setI N' 114 0 2) := ((oc.tr oX).tr (r2.mono (by decide) (by decide))).F 0 (by decide) _
    refine ⟨2, 0, dp_new M1 0 0 6, dp_setI N' 114 0 2, wL_correct_x3 (by rw [cl, if_pos y]), ?_, by rw [gII, if_pos rfl, uI_s], (fun e => by cases e), all _ oo (fun g hg => ?_), oo.mono (by decide) (by decide), ?_⟩
    · rw [ml _ (by rw [gIN (by omega)]; exact m160) (by rw [gIN (by omega)]; exact e241), r1, rb_bl, y, if_neg (by decide)]
    · rw [gII, if_neg (by decide), (r2.1 51 (by decide) (by decide) (by decide)).1, gIN (by omega)]; exact c4 g hg
    · have n1 : dp_n (dp_new M1 0 0 6) = dp_n M1 + 1 := rfl
      have n2 : dp_z (dp_new M1 0 0 6) = dp_z M1 + 6 := rfl
      have e1 := c3.1; have e2 := c3.2; have e3 := r3.1; have e4 := r3.2
      exact ⟨show dp_n N' ≤ dp_n M + 1 by omega, show dp_z N' ≤ dp_z M + 6 by omega⟩
  have vb := c5.resolve_left y
  have vn : (0 : Int64) ≤ v := by rw [Int64.le_iff_toInt_le]; exact vb.1
  obtain ⟨mo, hmo⟩ : ∃ mo, mo = v - dp_J M 242 i := ⟨_, rfl⟩
  have moI : mo.toInt = v.toInt - (dp_J M 242 i).toInt := by rw [hmo, q_subJ (by omega) (by omega)]
  have mo0 : mo = 0 ↔ v = dp_J M 242 i := by
    rw [← Int64.toInt_inj, moI, z0, ← Int64.toInt_inj]; omega
  by_cases y2 : v = dp_J M 242 i
  · -- nothing to correct
    have mz : mo = 0 := mo0.mpr y2
    obtain ⟨N', r1, r2, r3⟩ := c6 [245] [] (dp_setJ M1 245 0 mo) ((Off.rr _ _ M1).J 245 (by decide) _ _) (by decide) (by decide)
    have oo : Off Du_S Du_T M (dp_setI N' 114 0 0) := ((oc.J 245 (by decide) 0 mo).tr (r2.mono (by decide) (by decide))).F 0 (by decide) _
    have n242 : dp_J N' 242 i = dp_J M 242 i := by rw [(r2.1 242 (by decide) (by decide) (by decide)).2.1, gJJ, if_neg (by decide), e242]
    refine ⟨0, mo, dp_setJ M1 245 0 mo, dp_setI N' 114 0 0, wL_correct_ok ?_, ?_, by rw [gII, if_pos rfl, uI_s], fun _ => ?_, all _ oo (fun g hg => ?_), oo.mono (by decide) (by decide), ?_⟩
    · rw [cl, if_neg y, if_pos (Or.inl y2), D_X0_setRight_0_den, D_X0_setRight_0_eq, dc_duty (d := d + 7) i4, rb_bl, dpw]
      show dp_bl (if lg_cmp (v - dp_J M1 111 (i * 23 + 8)) 0 = 0 then _ else _) _ = _
      rw [t8, ← hmo, if_pos ((lg_cmp_eq _ _).mpr mz), rb_bl]
    · rw [ml _ (by rw [gIJ]; exact m160) (by rw [gIJ]; exact e241), r1, rb_bl, if_pos ((lg_cmp_ge _ _).mpr vn), n242, ← hmo, if_pos ((lg_cmp_eq _ _).mpr mz)]
    · rw [gJI, (r2.1 245 (by decide) (by decide) (by decide)).2.1, gJJ, if_pos rfl, uI_s]
    · rw [gII, if_neg (by decide), (r2.1 51 (by decide) (by decide) (by decide)).1, gIJ]; exact c4 g hg
    · have n1 : dp_n (dp_setJ M1 245 0 mo) = dp_n M1 := rfl
      have n2 : dp_z (dp_setJ M1 245 0 mo) = dp_z M1 := rfl
      have e1 := c3.1; have e2 := c3.2; have e3 := r3.1; have e4 := r3.2
      exact ⟨show dp_n N' ≤ dp_n M + 1 by omega, show dp_z N' ≤ dp_z M + 6 by omega⟩
  have my : ¬ mo = 0 := fun q => y2 (mo0.mp q)
  obtain ⟨ce1, ce2, ce3, ce4⟩ := bk2_ce my (by omega) (by omega)
  have hneg : ¬ -mo = 0 := fun q => my (by
    have := congrArg Int64.toInt q
    rw [Int64.toInt_neg] at this
    rw [← Int64.toInt_inj, z0]
    have hb : (-mo.toInt).bmod (2 ^ 64) = -mo.toInt := by apply Int.bmod_eq_of_le <;> omega
    omega)
  have fa1 : qin (dp_I M 234 i) 8 := k1.2.2.1
  have hac : ∀ k, k < 2 → qin (bkAc (dp_I M 234 i) k) 12 := fun k hk => by
    have : k = 0 ∨ k = 1 := by omega
    rcases this with rfl | rfl
    · show qin (dp_I M 234 i) 12
      obtain ⟨w, hw, ew⟩ := qin_of fa1 (by omega)
      rw [ew]; exact qin_nI (by omega) (by omega)
    · show qin 8 12
      decide
  have ents : ∀ N, dp_I N 234 = dp_I M 234 → dp_I N 114 141 = nI Bt → Bt < 800 → ∀ P0, MBk N P0 Bt 0 (dp_I M 238 i) v2 (bkAc (dp_I M 234 i)) (bkCe mo) → ∃ P2, MBk N P2 Bt 2 (dp_I M 238 i) v2 (bkAc (dp_I M 234 i)) (bkCe mo) ∧ ∀ {d} {Y : dp_M → Option dp_Res}, dp_bv (dp_den true xs xl (d + 1) 545 [.ref 114, .int (dp_I P0 114 141), .int (dp_I P0 234 i), .long (-mo)] P0) (fun M15 => (dp_bv (dp_den true xs xl (d + 1) 545 [.ref 114, .int (dp_I M15 114 141), .int (8 : Int32), .long mo] M15) Y)) = Y P2 := fun N n1 n3 hB P0 mb => by
    obtain ⟨P1, q1, q2⟩ := mb.ent (xs := xs) (xl := xl) (v2 := dp_I M 234 i) (v3 := -mo) (by omega) (by omega) rfl ce3 hneg
    obtain ⟨P2, r1, r2⟩ := q2.ent (xs := xs) (xl := xl) (v2 := 8) (v3 := mo) (by omega) (by omega) rfl ce4 my
    refine ⟨P2, r2, fun {d} {Y} => ?_⟩
    have g1 : ∀ P m, MBk N P Bt m (dp_I M 238 i) v2 (bkAc (dp_I M 234 i)) (bkCe mo) → dp_I P 114 141 = nI Bt ∧ dp_I P 234 = dp_I M 234 := fun P m hm => ⟨by rw [(hm.1.2.1 141 (by decide)).1]; exact n3, by rw [(hm.1.1 234 (by decide) (by decide) (by decide)).1, n1]⟩
    rw [(g1 P0 0 mb).1, (g1 P0 0 mb).2, q1, rb_bv, (g1 P1 1 q2).1, r1, rb_bv]
  by_cases w : Bt < 800 ∧ dp_I M1 97 2 < v2 ∧ dp_I M1 97 3 ≤ v2 ∧ E + 2 ≤ 4000
  case neg =>
    have hcl : dp_den true xs xl (d + 11) 356 [.ref 0, .int (nI i), .int v2] M = some (.inr 1, dp_new M1 0 0 6) := by rw [cl, if_neg y, if_neg (fun q => q.elim y2 w)]
    obtain ⟨N0, hN0⟩ : ∃ N0, N0 = dp_new M1 0 0 6 := ⟨_, rfl⟩
    have oN0 : Off [] [] M1 N0 := by rw [hN0]; exact (Off.rr _ _ M1).N hn1 0 0 6
    obtain ⟨N, r1, r2, r3⟩ := c6 [] [] N0 oN0 (by decide) (by decide)
    have o1N : Off Mr_S Mr_T M1 N := (oN0.mono (by decide) (by decide)).tr r2
    have oMN : Off Du_S Du_T M N := oc.tr (o1N.mono (by decide) (by decide))
    have n51 : ∀ g, g < 3 → dp_I N 51 g = dp_I M 51 g := fun g hg => by rw [(o1N.1 51 (by decide) (by decide) (by decide)).1]; exact c4 g hg
    obtain ⟨hpN, lN, hqN, htN, hrN, hsN, hdN⟩ := all N oMN n51
    have n242 : dp_J N 242 i = dp_J M 242 i := by rw [(o1N.1 242 (by decide) (by decide) (by decide)).2.1, e242]
    have n238 : dp_I N 238 = dp_I M 238 := (oMN.1 238 (by decide) (by decide) (by decide)).1
    have n234 : dp_I N 234 = dp_I M 234 := (oMN.1 234 (by decide) (by decide) (by decide)).1
    have bN : dp_I N 114 141 = nI Bt := by rw [(oMN.2.1 141 (by decide)).1]; exact a2
    have eT : ∀ q ∈ RelL_T, dp_I N 114 q = dp_I M1 114 q := fun q hq => (o1N.2.1 q (by revert q; decide)).1
    have mlN := ml N0 (by rw [(oN0.2.1 160 (by simp)).1]; exact m160) (by rw [(oN0.1 241 (by decide) (by decide) (by decide)).1]; exact e241)
    rw [r1, rb_bl, if_pos ((lg_cmp_ge _ _).mpr vn), n242, ← hmo, if_neg (fun q => my ((lg_cmp_eq _ _).mp q))] at mlN
    obtain ⟨bf1, bf2⟩ := dm_begin (xs := xs) (xl := xl) (d := d + 9) (M := N) (B := Bt) (i := i) (v2 := v2) (ac := bkAc (dp_I M 234 i)) (ce := bkCe mo) (by omega) bN hB8
    have fin : ∀ P, dp_den true xs xl (d + 12) 582 [.ref 114, .int (nI i), .int v2] N0 = lR 0 (dp_setI P 114 0 3) → Off MBk_S [] N P → Cst 0 0 N P → RelL (dp_setI P 114 0 3) → ∃ k b M1 M2, dp_den true xs xl (d + 12) 652 [.ref 0, .int (nI i), .int v2, .ref 245] M = iR k M1 ∧ dp_den true xs xl (d + 12) 582 [.ref 114, .int (nI i), .int v2] M1 = lR b M2 ∧
        dp_I M2 114 0 = k ∧ (k = 0 → dp_J M2 245 0 = b) ∧ (PR M2 n B T c ∧ RelL M2 ∧ RelQ M2 ∧ RelT M2 ∧ RelR M2 ∧ RelS M2 ∧ RelD M2) ∧ Off Cr_S Cr_T M M2 ∧ Cst 1 6 M M2 := fun P e1 oP cP rl => by
      have oK : Off MBk_S [0] N (dp_setI P 114 0 3) := (oP.mono (fun _ h => h) (by simp)).F 0 (by decide) _
      refine ⟨3, 0, N0, dp_setI P 114 0 3, ?_, e1, by rw [gII, if_pos rfl, uI_s], (fun e => by cases e), ⟨PR_off hpN oK (by decide) (by decide), rl, hqN.scr oK (by decide) (by decide), RelT_off htN oK (by decide) (by decide), RelR_off hrN oK (by decide) (by decide), RelS_off hsN oK (by decide) (by decide), RelD_off hdN oK (by decide) (by decide)⟩, (oMN.mono (by decide) (by decide)).tr (oK.mono (by decide) (by decide)), ?_⟩
      · rw [hN0]; exact wL_correct_x1 hcl
      · have n1 : dp_n N0 = dp_n M1 + 1 ∧ dp_z N0 = dp_z M1 + 6 := by rw [hN0]; exact ⟨rfl, rfl⟩
        have e1 := c3.1; have e2 := c3.2; have e3 := r3.1; have e4 := r3.2; have e5 := cP.1; have e6 := cP.2
        exact ⟨show dp_n P ≤ dp_n M + 1 by omega, show dp_z P ≤ dp_z M + 6 by omega⟩
    by_cases wB : Bt < 800
    · obtain ⟨P0, q1, q2⟩ := bf2 wB
      rw [n238] at q2
      obtain ⟨P2, s1, s2⟩ := ents N n234 bN wB P0 q2
      have cn : ¬ (dp_I N 114 143 < v2 ∧ dp_I N 114 144 ≤ v2 ∧ E + 2 ≤ 4000) := fun q => w (tk.mpr ⟨wB, by rw [eT 143 (by decide), eT 144 (by decide)] at q; exact q⟩)
      refine fin P2 ?_ s1.1 s1.2.1 (lN.bkno bN hB8 s1 ((Off.rr [] [0] P2).F 0 (by decide) _) (by decide) (by decide))
      rw [mlN, q1, rb_bi, if_neg one_ne, s2, bk_no s1 bN (by omega) (by omega) (by omega) (by rw [(oMN.2.1 142 (by decide)).1]; exact a4) hE4 ce2 cn, rb_bi, if_pos rfl]
    · have wB' : Bt = 800 := by omega
      refine fin N ?_ (Off.rr _ _ N) (Cst.r N) (RelL_off lN ((Off.rr [] [0] N).F 0 (by decide) _) (by decide) (by decide))
      rw [mlN, bf1 wB', rb_bi, if_pos rfl]
  -- corrected
  have wm := tk.mp w
  have eT1 : ∀ q, dp_I M1 114 q = dp_I M 114 q := fun q => (c2.2.1 q (by simp)).1
  have fa : DFa M1 i := by
    have q : ∀ k ∈ [233, 234, 235, 236, 237, 238], dp_I M1 k = dp_I M k := fun k hk => (c2.1 k (by simp only [List.mem_cons, List.not_mem_nil, or_false] at hk; omega) (by revert k; decide) (by simp only [List.mem_cons, List.not_mem_nil, or_false] at hk; omega)).1
    unfold DFa at k1 ⊢
    rw [e111, q 233 (by decide), q 234 (by decide), q 235 (by decide), q 236 (by decide), q 237 (by decide), q 238 (by decide), (c2.1 239 (by decide) (by decide) (by decide)).2.1]; exact k1
  have e234 : dp_I M1 234 = dp_I M 234 := (c2.1 234 (by decide) (by decide) (by decide)).1
  have e238 : dp_I M1 238 = dp_I M 238 := (c2.1 238 (by decide) (by decide) (by decide)).1
  obtain ⟨C2, b1, b2⟩ := dc_book2 (xs := xs) (xl := xl) (d := d + 5) (M := M1) (B := Bt) (E := E) (i := i) (v := mo) (v2 := v2) lM1 i4 fa my (by rw [eT1]; exact a2) wm.1 (by rw [eT1]; exact a4) wm.2.2.2
  rw [e234, e238] at b2
  obtain ⟨C3, hC3⟩ : ∃ C3, C3 = dp_setJ (dp_setJ C2 111 (i * 23 + 10) (nI Bt).toInt64) 111 (i * 23 + 8) v := ⟨_, rfl⟩
  obtain ⟨N0, hN0⟩ : ∃ N0, N0 = dp_setJ C3 245 0 mo := ⟨_, rfl⟩
  have oC0 : Off [111, 245] [] C2 N0 := by rw [hN0, hC3]; exact (((Off.rr _ _ C2).J 111 (by decide) _ _).J 111 (by decide) _ _).J 245 (by decide) _ _
  have o10 : Off [97, 100, 101, 102, 103, 104, 111, 245] [] M1 N0 := (b2.1.mono (by decide) (by decide)).tr (oC0.mono (by decide) (by decide))
  obtain ⟨N, r1, r2, r3⟩ := c6 _ _ N0 o10 (by decide) (by decide)
  have oCN : Off (111 :: 245 :: Mr_S) Mr_T C2 N := (oC0.mono (by decide) (by decide)).tr (r2.mono (by decide) (by decide))
  have o1N : Off (97 :: 100 :: 101 :: 102 :: 103 :: 104 :: 111 :: 245 :: Mr_S) Mr_T M1 N := (o10.mono (by decide) (by decide)).tr (r2.mono (by decide) (by decide))
  have n242 : dp_J N 242 = dp_J M 242 := by rw [(o1N.1 242 (by decide) (by decide) (by decide)).2.1, e242]
  have n238 : dp_I N 238 = dp_I M 238 := by rw [(o1N.1 238 (by decide) (by decide) (by decide)).1, e238]
  have n234 : dp_I N 234 = dp_I M 234 := by rw [(o1N.1 234 (by decide) (by decide) (by decide)).1, e234]
  have n244 : dp_I N 244 = dp_I M 244 := by rw [(o1N.1 244 (by decide) (by decide) (by decide)).1, (c2.1 244 (by decide) (by decide) (by decide)).1]
  have bN : dp_I N 114 141 = nI Bt := by rw [(o1N.2.1 141 (by decide)).1, eT1]; exact a2
  obtain ⟨P0, q1, q2⟩ := (dm_begin (xs := xs) (xl := xl) (d := d + 9) (M := N) (B := Bt) (i := i) (v2 := v2) (ac := bkAc (dp_I M 234 i)) (ce := bkCe mo) (by omega) bN hB8).2 wm.1
  rw [n238] at q2
  obtain ⟨P2, s1, s2⟩ := ents N n234 bN wm.1 P0 q2
  obtain ⟨K1, t1, t2, t3, t4, t5⟩ := bk_yes (xs := xs) (xl := xl) (d := d + 6) (M := M1) (C := C2) (N := N) (P := P2) (i := i) lM1 b2 oCN (by decide) (by decide) s1 (by rw [eT1]; exact a2) wm.1 (by omega) (by omega) (by rw [eT1]; exact a4) hE4 ce2 (by omega) hac ce1 wm.2
  obtain ⟨K, hK⟩ : ∃ K, K = dp_setI (dp_setJ K1 242 i v) 114 0 0 := ⟨_, rfl⟩
  have oK1 : Off [242] [0] K1 K := by rw [hK]; exact ((Off.rr _ _ K1).J 242 (by decide) _ _).F 0 (by decide) _
  have oNK : Off [221, 222, 223, 224, 225, 226, 227, 228, 229, 230, 242, 244] [0, 141, 142, 144] N K := (t3.mono (by decide) (by decide)).tr (oK1.mono (by decide) (by decide))
  have o1K : Off Cr_S Cr_T M1 K := (o1N.mono (by decide) (by decide)).tr (oNK.mono (by decide) (by decide))
  have oo : Off Cr_S Cr_T M K := (oc.mono (by decide) (by decide)).tr o1K
  have k51 : ∀ g, g < 3 → dp_I K 51 g = dp_I M 51 g := fun g hg => by
    rw [(oNK.1 51 (by decide) (by decide) (by decide)).1, (o1N.1 51 (by decide) (by decide) (by decide)).1]; exact c4 g hg
  have k242 : dp_J K 242 = uI (dp_J M 242) i v := by rw [hK, gJI, gJJ, if_pos rfl, (t3.1 242 (by decide) (by decide) (by decide)).2.1, n242]
  have k244 : dp_I K 244 = uI (dp_I M 244) i (nI Bt) := by rw [(oK1.1 244 (by decide) (by decide) (by decide)).1, t5, n244]
  have k111 : dp_J K 111 = uI (uI (dp_J M 111) (i * 23 + 10) (nI Bt).toInt64) (i * 23 + 8) v := by
    rw [(oNK.1 111 (by decide) (by decide) (by decide)).2.1, (r2.1 111 (by decide) (by decide) (by decide)).2.1, hN0, gJJ, if_neg (by decide), hC3, gJJ, if_pos rfl, gJJ, if_pos rfl, (b2.1.1 111 (by decide) (by decide) (by decide)).2.1, e111]
  refine ⟨0, mo, N0, K, ?_, ?_, by rw [hK, gII, if_pos rfl, uI_s], fun _ => ?_, ⟨PR_off hp oo (by decide) (by decide), RelL_off t2 oK1 (by decide) (by decide), hq.scr oo (by decide) (by decide), ht.scr oo (by decide) (by decide) k51, RelR_off hr oo (by decide) (by decide), RelS_off hs oo (by decide) (by decide), ⟨D, A, R, ?_⟩⟩, oo, ?_⟩
  · rw [hN0]
    refine wL_correct_ok ?_
    rw [cl, if_neg y, if_pos (Or.inr w), D_X0_setRight_0_den, D_X0_setRight_0_eq, dc_duty (d := d + 7) i4, rb_bl, dpw]
    show dp_bl (if lg_cmp (v - dp_J M1 111 (i * 23 + 8)) 0 = 0 then (some (.inl (some (.long (v - dp_J M1 111 (i * 23 + 8)))), M1) : Option dp_Res) else (dp_bi (dp_den true xs xl (d + 9) 19 [.ref 108, .int (nI i), .int v2, .long (0 : Int64), .long (v - dp_J M1 111 (i * 23 + 8))] M1) (fun r5 M4 => dp_bv (dp_den true xs xl (d + 9) 3 [.ref 108, .int (nI i), .int (8 : Int32), .long v] M4) (fun M6 => some (.inl (some (.long (v - dp_J M1 111 (i * 23 + 8)))), M6))))) _ = _
    rw [t8, ← hmo, if_neg (fun q => my ((lg_cmp_eq _ _).mp q)), b1, rb_bi, dc_set (d := d + 8) (v2 := 8) (k := 8) rfl i4 (by omega), rb_bv, rb_bl, hC3]
  · rw [ml N0 (by rw [(o10.2.1 160 (by simp)).1]; exact m160) (by rw [(o10.1 241 (by decide) (by decide) (by decide)).1]; exact e241), r1, rb_bl, if_pos ((lg_cmp_ge _ _).mpr vn), n242, ← hmo, if_neg (fun q => my ((lg_cmp_eq _ _).mp q)), q1, rb_bi, if_neg one_ne, s2, t1, rb_bi, if_neg one_ne, hK]
  · rw [(oNK.1 245 (by decide) (by decide) (by decide)).2.1, (r2.1 245 (by decide) (by decide) (by decide)).2.1, hN0, gJJ, if_pos rfl, uI_s]
  · refine hb0.corr hi hst vb.1 vb.2 (by rw [k111, uI_s]) (by rw [k111, uI_n (by omega), uI_s, k244, uI_s]) (fun j k hk hz => by rw [k111, uI_n (by omega), uI_n (by omega)]) k242 (fun j hj => by rw [k244, uI_n hj]) (fun k hk => ?_) (fun k hk => ?_) ?_ (fun q hq => ?_)
    · have u : ∀ k ∈ [109, 110, 196, 215, 233, 234, 235, 236, 237, 238, 241, 243], k < 246 ∧ k ∉ Cr_S ∧ k ≠ 114 := by decide
      exact (oo.1 k (u k hk).1 (u k hk).2.1 (u k hk).2.2).1
    · have u : ∀ k ∈ [96, 239, 240], k < 246 ∧ k ∉ Cr_S ∧ k ≠ 114 := by decide
      exact (oo.1 k (u k hk).1 (u k hk).2.1 (u k hk).2.2).2.1
    · rw [(oo.1 108 (by decide) (by decide) (by decide)).1]
    · have u : ∀ q ∈ RelD_T, q ∉ Cr_T := by decide
      exact (oo.2.1 q (u q hq)).1
  · have x1 : Cst 0 0 C2 N0 := by rw [hN0, hC3]; exact ⟨Nat.le_refl _, Nat.le_refl _⟩
    have x2 : Cst 0 0 K1 K := by rw [hK]; exact ⟨Nat.le_refl _, Nat.le_refl _⟩
    exact (((((c3.tr0 b2.2.1).tr0 x1).tr0 r3).tr0 t4).tr0 x2).mono (by omega) (by omega)
end DuO
