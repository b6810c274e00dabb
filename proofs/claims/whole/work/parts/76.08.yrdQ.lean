-- needs: 75
/-! YARD: take, shift, choose, where, undo -/
section YH
variable {xs : Nat → Int32} {xl d : Nat} {C M : dp_M}
theorem s_take {n B T : Nat} (hy : HY M n B T) (hn : 246 ≤ dp_n M) (v1 : Int32) : ∃ k b M1 M2, dp_den true xs xl (d + 6) 603 [.ref 0, .int v1, .ref 245] M = iR k M1 ∧ dp_den true xs xl (d + 6) 411 [.ref 114, .int v1] M1 = iR b M2 ∧
    dp_I M2 114 0 = k ∧ (k = 0 → dp_J M2 245 0 = b.toInt64) ∧ HY M2 n B T ∧ Off HY_S HY_T M M2 ∧ Cst 1 6 M M2 := by
  obtain ⟨hr, W, H, G, R, L, h, m, cy, my, yi, e144, ygr⟩ := hy
  have hy : HY M n B T := ⟨hr, W, H, G, R, L, h, m, cy, my, yi, e144, ygr⟩
  have yi0 := yi
  obtain ⟨i1, i2, i3, i4, i5, i6, i7, i8, i9, i10, i11, i12⟩ := yi
  have a1 := hr.1
  have a6 : dp_I M 1 2 = nI n := hr.2.2.2.2.2.1
  have a7 : dp_I M 114 3 = nI n := hr.2.2.2.2.2.2.1
  by_cases g1 : qin v1 n
  case neg =>
    refine ⟨1, 0, dp_new M 0 0 6, _, wL_take_x2 ?_, ?_, rfl, (fun e => by cases e), hy.refused hn 1⟩
    · rw [D_X11_take_0_den, D_X11_take_0_eq, pc_box a6 a1, rb_bi, ibz, if_neg g1, q_nk hn]
    · rw [D_X12_take_0_den, D_X12_take_0_eq, pm_box (n := n) (by rw [gIN (by omega)]; exact a7) a1, rb_bi, ibz, if_neg g1, q_ref, rb_bi]
  obtain ⟨x, hx, rfl⟩ := qin_of g1 (by omega)
  have hcx : dp_den true xs xl (d + 5) 275 [.ref 0, .int (nI x)] M = if tpd R L n x then dp_bv (dp_den true xs xl (d + 4) 246 [.ref 28, .int (nI x), .int (-1)] M) (fun M7 => iR 1 M7) else iR 0 M := by
    rw [D_X11_take_0_den, D_X11_take_0_eq, pc_box a6 a1, rb_bi, ibz, if_pos g1, yc_ont cy i9 i7 hx i2 i4, rb_bi, ibz]
  have hmp : ∀ N : dp_M, dp_I N 114 3 = nI n → MY N n W H G R L h m → dp_den true xs xl (d + 6) 411 [.ref 114, .int (nI x)] N = if tpd R L n x then dp_bv (dp_den true xs xl (d + 5) 409 [.ref 114, .int (nI x), .int (-1)] (dp_setI N 114 0 0)) (fun M16 => iR 1 M16) else iR 0 (dp_setI N 114 0 0) := fun N n3 mn => by
    have mn2 : MY (dp_setI N 114 0 0) n W H G R L h m := MY_off mn ((Off.rr [] [0] N).F 0 (by decide) 0) (by decide) (by decide)
    have n3' : dp_I (dp_setI N 114 0 0) 114 3 = nI n := by rw [gII, if_pos rfl, uI_n (by decide)]; exact n3
    rw [D_X12_take_0_den, D_X12_take_0_eq, pm_box n3 a1, rb_bi, ibz, if_pos g1]
    simp only [dp_w]
    rw [ym_ont mn2 i9 n3' i7 hx i2, rb_bi, ibz]
  by_cases z : tpd R L n x
  · obtain ⟨z1, z2⟩ := i11 x hx z.1
    obtain ⟨C', d1, d2, d3⟩ := HY.mv (xs := xs) (xl := xl) (d := d + 2) (d' := d + 2) hr cy my yi0 e144 ygr (goO.of1 i9 hx i2 z (Or.inl rfl)) (Or.inl rfl) z1 z2
    obtain ⟨M2, n1, n2, n3, n4, n5, n6⟩ := d3 (1 : Int32).toInt64
    refine ⟨0, 1, _, M2, wL_take_ok (by rw [hcx, if_pos z, d1, rb_bv]), ?_, n5, fun _ => n6, n2, n3, n4⟩
    rw [hmp _ (by rw [gIJ, (d2.2.1 3 (by decide)).1]; exact a7) (MY_off (MY_off my d2 (by decide) (by decide)) ((Off.rr [245] [] C').J 245 (by decide) 0 _) (by decide) (by decide)), if_pos z, n1, rb_bv]
  · refine ⟨0, 0, _, dp_setI (dp_setJ M 245 0 (0 : Int32).toInt64) 114 0 0, wL_take_ok (by rw [hcx, if_neg z]), ?_, by simp [gII, uI], fun _ => by simp [gJI, gJJ, uI], hy.looked _⟩
    rw [hmp _ (by rw [gIJ]; exact a7) (MY_off my ((Off.rr [245] [] M).J 245 (by decide) 0 _) (by decide) (by decide)), if_neg z]
theorem s_shift {n B T : Nat} (hy : HY M n B T) (hn : 246 ≤ dp_n M) (v1 v2 : Int32) : ∃ k b M1 M2, dp_den true xs xl (d + 6) 604 [.ref 0, .int v1, .int v2, .ref 245] M = iR k M1 ∧ dp_den true xs xl (d + 6) 412 [.ref 114, .int v1, .int v2] M1 = iR b M2 ∧
    dp_I M2 114 0 = k ∧ (k = 0 → dp_J M2 245 0 = b.toInt64) ∧ HY M2 n B T ∧ Off HY_S HY_T M M2 ∧ Cst 1 6 M M2 := by
  obtain ⟨hr, W, H, G, R, L, h, m, cy, my, yi, e144, ygr⟩ := hy
  have hy : HY M n B T := ⟨hr, W, H, G, R, L, h, m, cy, my, yi, e144, ygr⟩
  have yi0 := yi
  obtain ⟨i1, i2, i3, i4, i5, i6, i7, i8, i9, i10, i11, i12⟩ := yi
  have c1 := cy.1
  have m1 := my.1
  have hr0 := hr
  obtain ⟨a1, a2, a3, a4, a5, a6, a7, a8, a9, a10, a11, a12, a13, a14, a15, b1, b2, b3, b4, b5, b6, b7, b8, b9, b10, f1, f2, f3⟩ := hr
  by_cases g : qin v1 n ∧ qin v2 W
  case neg =>
    refine ⟨1, 0, dp_new M 0 0 6, _, wL_shift_x2 ?_, ?_, rfl, (fun e => by cases e), hy.refused hn 1⟩
    · rw [D_X11_shift_0_den, D_X11_shift_0_eq, pc_box a6 a1, rb_bi, ibz]
      by_cases z1 : qin v1 n
      · rw [if_pos z1, pc_yrd c1 i2, rb_bi, ibz, if_neg (fun q => g ⟨z1, q⟩), q_nk hn]
      · rw [if_neg z1, q_nk hn]
    · rw [D_X12_shift_0_den, D_X12_shift_0_eq, pm_box (n := n) (by rw [gIN (by omega)]; exact a7) a1, rb_bi, ibz]
      by_cases z1 : qin v1 n
      · rw [if_pos z1, pm_yrd (n := W) (by rw [gIN (by omega)]; exact m1) i2, rb_bi, ibz, if_neg (fun q => g ⟨z1, q⟩), q_ref, rb_bi]
      · rw [if_neg z1, q_ref, rb_bi]
  obtain ⟨g1, g2⟩ := g
  obtain ⟨x, hx, rfl⟩ := qin_of g1 (by omega)
  obtain ⟨r, hr1, rfl⟩ := qin_of g2 (by omega)
  obtain ⟨K, hK⟩ : ∃ K : Int32, K = if R x = nI r then 1 else brk n H G R L (dp_I M 5) (dp_I M 4) (dp_I M 7) (dp_I M 3) (dp_I M 34) (dp_I M 35) x r := ⟨_, rfl⟩
  have hcx : dp_den true xs xl (d + 5) 276 [.ref 0, .int (nI x), .int (nI r)] M = if tpd R L n x then (if K = 0 then dp_bv (dp_den true xs xl (d + 4) 246 [.ref 28, .int (nI x), .int (nI r)] M) (fun M7 => iR 1 M7) else iR (-K) M) else iR 0 M := by
    rw [D_X11_shift_0_den, D_X11_shift_0_eq, pc_box a6 a1, rb_bi, ibz, if_pos g1, pc_yrd c1 i2, rb_bi, ibz, if_pos g2, yc_ont cy i9 i7 hx i2 i4, rb_bi, ibz]
    by_cases z : tpd R L n x
    · rw [if_pos z, if_pos z, D_X10_brokenByShift_0_den, D_X10_brokenByShift_0_eq, hc_here hx a1, rb_bi, bI_t (i11 x hx z.1), if_neg one_ne, hK]
      simp only [nI_cl (show x < 2147483648 by omega), nI_o (show x < 100 by omega) (by omega), if_false, (cy.2.2.2.2.2.2.2.1 x hx).1]
      by_cases z2 : R x = nI r
      · rw [if_pos z2, if_pos z2, rb_bi]
      · rw [if_neg z2, if_neg z2, yc_brk cy i9 i7 hr1 hx i2 i4 i6, rb_bi, rb_bi]
    · rw [if_neg z, if_neg z]
  have hmp : ∀ N : dp_M, Off HY_S HY_T M N → MY N n W H G R L h m → dp_den true xs xl (d + 6) 412 [.ref 114, .int (nI x), .int (nI r)] N = if tpd R L n x then (if K = 0 then dp_bv (dp_den true xs xl (d + 5) 409 [.ref 114, .int (nI x), .int (nI r)] (dp_setI N 114 0 0)) (fun M16 => iR 1 M16) else iR (-K) (dp_setI N 114 0 0)) else iR 0 (dp_setI N 114 0 0) := fun N o mn => by
    have oN : Off HY_S HY_T N (dp_setI N 114 0 0) := (Off.rr _ _ _).F 0 (by decide) 0
    have o2 := o.tr oN
    have mn2 : MY (dp_setI N 114 0 0) n W H G R L h m := MY_off mn ((Off.rr [] [0] N).F 0 (by decide) 0) (by decide) (by decide)
    have e : ∀ k, k < 246 → k ∉ HY_S → k ≠ 114 → dp_I (dp_setI N 114 0 0) k = dp_I M k := fun k h1 h2 h4 => (o2.1 k h1 h2 h4).1
    have n3 : dp_I N 114 3 = nI n := by rw [(o.2.1 3 (by decide)).1]; exact a7
    have n3' : dp_I (dp_setI N 114 0 0) 114 3 = nI n := by rw [(o2.2.1 3 (by decide)).1]; exact a7
    rw [D_X12_shift_0_den, D_X12_shift_0_eq, pm_box n3 a1, rb_bi, ibz, if_pos g1, pm_yrd (n := W) mn.1 i2, rb_bi, ibz, if_pos g2]
    simp only [dp_w]
    rw [ym_ont mn2 i9 n3' i7 hx i2, rb_bi, ibz]
    by_cases z : tpd R L n x
    case neg => rw [if_neg z, if_neg z]
    rw [if_pos z, if_pos z, hK]
    simp only [nI_cl (show x < 2147483648 by omega), nI_o (show x < 100 by omega) (by omega), if_false, (mn2.2.2.2.1 x hx).1]
    by_cases z2 : R x = nI r
    · rw [if_pos z2, if_pos z2, if_neg (by decide), if_neg one_ne]
    · rw [if_neg z2, if_neg z2, ym_brk mn2 i9 n3' i7 hr1 hx i2 i4 i6 (by rw [e 134 (by decide) (by decide) (by decide), (ygr r hr1).2.1]; exact (ygr r hr1).2.2) (cy.lvl hr1), rb_bi]
      have er : brk n H G R L (dp_I (dp_setI N 114 0 0) 137) (dp_I (dp_setI N 114 0 0) 135) (dp_I (dp_setI N 114 0 0) 139) (dp_I (dp_setI N 114 0 0) 136) (dp_I (dp_setI N 114 0 0) 133) (dp_I (dp_setI N 114 0 0) 134) x r = brk n H G R L (dp_I M 5) (dp_I M 4) (dp_I M 7) (dp_I M 3) (dp_I M 34) (dp_I M 35) x r := by
        rw [e 137 (by decide) (by decide) (by decide), e 135 (by decide) (by decide) (by decide), e 139 (by decide) (by decide) (by decide), e 136 (by decide) (by decide) (by decide), e 133 (by decide) (by decide) (by decide), e 134 (by decide) (by decide) (by decide), b8, b7, b10, b6]
        unfold brk
        rw [(ygr r hr1).1, (ygr r hr1).2.1]
      rw [er]
      simp only [brk_p]
  by_cases zt : tpd R L n x
  case neg =>
    refine ⟨0, 0, _, dp_setI (dp_setJ M 245 0 (0 : Int32).toInt64) 114 0 0, wL_shift_ok (by rw [hcx, if_neg zt]), ?_, by simp [gII, uI], fun _ => by simp [gJI, gJJ, uI], hy.looked _⟩
    rw [hmp _ ((Off.rr _ _ M).J 245 (by decide) 0 _) (MY_off my ((Off.rr [245] [] M).J 245 (by decide) 0 _) (by decide) (by decide)), if_neg zt]
  by_cases z : K = 0
  · have z2 : ¬ R x = nI r := fun q => by rw [hK, if_pos q] at z; exact absurd z (by decide)
    have z3 : brk n H G R L (dp_I M 5) (dp_I M 4) (dp_I M 7) (dp_I M 3) (dp_I M 34) (dp_I M 35) x r = 0 := by
      rw [hK, if_neg z2] at z; exact z
    obtain ⟨z4, z5⟩ := i11 x hx zt.1
    obtain ⟨C', d1, d2, d3⟩ := HY.mv (xs := xs) (xl := xl) (d := d + 2) (d' := d + 2) hr0 cy my yi0 e144 ygr (goO.of1 i9 hx i2 zt (Or.inr ⟨r, hr1, rfl, (brk_0 z3).1⟩)) (Or.inr z2) z4 z5
    obtain ⟨M2, n1, n2, n3, n4, n5, n6⟩ := d3 (1 : Int32).toInt64
    refine ⟨0, 1, _, M2, wL_shift_ok (by rw [hcx, if_pos zt, if_pos z, d1, rb_bv]), ?_, n5, fun _ => n6, n2, n3, n4⟩
    rw [hmp _ ((d2.mono (by decide) (by decide) : Off HY_S HY_T M C').J 245 (by decide) 0 _) (MY_off (MY_off my d2 (by decide) (by decide)) ((Off.rr [245] [] C').J 245 (by decide) 0 _) (by decide) (by decide)), if_pos zt, if_pos z, n1, rb_bv]
  · refine ⟨0, -K, _, dp_setI (dp_setJ M 245 0 (-K).toInt64) 114 0 0, wL_shift_ok (by rw [hcx, if_pos zt, if_neg z]), ?_, by simp [gII, uI], fun _ => by simp [gJI, gJJ, uI], hy.looked _⟩
    rw [hmp _ ((Off.rr _ _ M).J 245 (by decide) 0 _) (MY_off my ((Off.rr [245] [] M).J 245 (by decide) 0 _) (by decide) (by decide)), if_pos zt, if_neg z]
/-- rows of the model that are those of the class -/
theorem HR.rows {n B T : Nat} (h : HR M n B T) : dp_I M 137 = dp_I M 5 ∧ dp_I M 135 = dp_I M 4 ∧ dp_I M 139 = dp_I M 7 ∧ dp_I M 136 = dp_I M 3 ∧ dp_I M 138 = dp_I M 6 ∧ ∀ i, i < n → wi (dp_I M 5 i) 1 40 := by
  obtain ⟨a1, a2, a3, a4, a5, a6, a7, a8, a9, a10, a11, a12, a13, a14, a15, b1, b2, b3, b4, b5, b6, b7, b8, b9, b10, f1, f2, f3⟩ := h
  exact ⟨b8, b7, b10, b6, b9, fun i hi => (f1 i hi).2.2.1⟩
theorem ok1_c {n H G : Nat} {R L wt sz sp kd gd rs gd' rs' : Nat → Int32} {x r : Nat} (h1 : gd' r = gd r) (h2 : rs' r = rs r) : ok1 n H G R L wt sz sp kd gd' rs' x r = ok1 n H G R L wt sz sp kd gd rs x r := by
  unfold ok1 brk; rw [h1, h2]
theorem scr_c {n : Nat} {R L wt lv sp rs rs' : Nat → Int32} {x r : Nat} (h2 : rs' r = rs r) : scr n R L wt lv sp rs' x r = scr n R L wt lv sp rs x r := by
  unfold scr; rw [h2]
theorem bsV_c {ok ok' : Nat → Bool} {sc sc' : Nat → Int32} {a b : Nat} {v : Int32} (h1 : ∀ r, r < b → ok' r = ok r) (h2 : ∀ r, r < b → sc' r = sc r) (h : bsV ok' sc' a b v) : bsV ok sc a b v := by
  rcases h with ⟨p1, p2⟩ | ⟨r, p1, r1, r2, r3, r4⟩
  · exact Or.inl ⟨p1, fun k k1 k2 => by rw [← h1 k k2]; exact p2 k k1 k2⟩
  · refine Or.inr ⟨r, p1, r1, r2, by rw [← h1 r r2]; exact r3, fun k k1 k2 k3 => ?_⟩
    rw [← h2 k k2, ← h2 r r2]
    exact r4 k k1 k2 (by rw [h1 k k2]; exact k3)
theorem s_choose {n B T : Nat} (hy : HY M n B T) (hn : 246 ≤ dp_n M) (v1 : Int32) : ∃ k b M1 M2, dp_den true xs xl (d + 6) 605 [.ref 0, .int v1, .ref 245] M = iR k M1 ∧ dp_den true xs xl (d + 6) 413 [.ref 114, .int v1] M1 = iR b M2 ∧
    dp_I M2 114 0 = k ∧ (k = 0 → dp_J M2 245 0 = b.toInt64) ∧ HY M2 n B T ∧ Off HY_S HY_T M M2 ∧ Cst 1 6 M M2 := by
  obtain ⟨hr, W, H, G, R, L, h, m, cy, my, yi, e144, ygr⟩ := hy
  have hy : HY M n B T := ⟨hr, W, H, G, R, L, h, m, cy, my, yi, e144, ygr⟩
  obtain ⟨i1, i2, i3, i4, i5, i6, i7, i8, i9, i10, i11, i12⟩ := yi
  have a1 := hr.1
  have a6 : dp_I M 1 2 = nI n := hr.2.2.2.2.2.1
  have a7 : dp_I M 114 3 = nI n := hr.2.2.2.2.2.2.1
  have b3 : dp_I M 117 = dp_I M 9 := hr.2.2.2.2.2.2.2.2.2.2.2.2.2.2.2.2.2.1
  obtain ⟨r1, r2, r3, r4, r5, r6⟩ := hr.rows
  by_cases g1 : qin v1 n
  case neg =>
    refine ⟨1, 0, dp_new M 0 0 6, _, wL_choose_x2 ?_, ?_, rfl, (fun e => by cases e), hy.refused hn 1⟩
    · rw [D_X11_choose_0_den, D_X11_choose_0_eq, pc_box a6 a1, rb_bi, ibz, if_neg g1, q_nk hn]
    · rw [D_X12_choose_0_den, D_X12_choose_0_eq, pm_box (n := n) (by rw [gIN (by omega)]; exact a7) a1, rb_bi, ibz, if_neg g1, q_ref, rb_bi]
  obtain ⟨x, hx, rfl⟩ := qin_of g1 (by omega)
  obtain ⟨w, w1, w2⟩ := yc_best (xs := xs) (xl := xl) (d := d) cy i9 i7 hx i2 i4 i6 r6
  obtain ⟨K, hK⟩ : ∃ K : Int32, K = if (dp_I M 9 x = 3 ∧ dp_I M 11 x = 0) ∧ R x = -1 then w else -1 := ⟨_, rfl⟩
  have hcl : dp_den true xs xl (d + 5) 277 [.ref 0, .int (nI x)] M = iR K M := by
    rw [D_X11_choose_0_den, D_X11_choose_0_eq, pc_box a6 a1, rb_bi, ibz, if_pos g1, hc_here hx a1, rb_bi, ibz, hK]
    simp only [nI_cl (show x < 2147483648 by omega), nI_o (show x < 100 by omega) (by omega), if_false, (cy.2.2.2.2.2.2.2.1 x hx).1]
    by_cases z1 : dp_I M 9 x = 3 ∧ dp_I M 11 x = 0
    · rw [if_pos z1]
      by_cases z2 : R x = -1
      · rw [if_pos z2, w1, rb_bi, if_pos ⟨z1, z2⟩]
      · rw [if_neg z2, if_neg (fun q => z2 q.2)]
    · rw [if_neg z1, if_neg (fun q => z1 q.1)]
  refine ⟨0, K, _, dp_setI (dp_setJ M 245 0 K.toInt64) 114 0 0, wL_choose_ok hcl, ?_, by simp [gII, uI], fun _ => by simp [gJI, gJJ, uI], hy.looked _⟩
  obtain ⟨N, hN⟩ : ∃ N, N = dp_setI (dp_setJ M 245 0 K.toInt64) 114 0 0 := ⟨_, rfl⟩
  have oN : Off [245] [0] M N := by rw [hN]; exact ((Off.rr _ _ M).J 245 (by decide) 0 _).F 0 (by decide) 0
  have mn : MY N n W H G R L h m := MY_off my oN (by decide) (by decide)
  have e : ∀ k, k < 246 → k ∉ [245] → k ≠ 114 → dp_I N k = dp_I M k := fun k h1 h2 h4 => (oN.1 k h1 h2 h4).1
  have n3 : dp_I N 114 3 = nI n := by rw [(oN.2.1 3 (by decide)).1]; exact a7
  obtain ⟨w', w1', w2'⟩ := ym_best (xs := xs) (xl := xl) (d := d + 1) mn i9 n3 i7 hx i2 i4 i6 (fun r hr1 => by rw [e 134 (by decide) (by decide) (by decide), (ygr r hr1).2.1]; exact (ygr r hr1).2.2) (fun r hr1 => cy.lvl hr1) (by rw [e 137 (by decide) (by decide) (by decide), r1]; exact r6)
  rw [e 137 (by decide) (by decide) (by decide), e 135 (by decide) (by decide) (by decide), e 139 (by decide) (by decide) (by decide), e 136 (by decide) (by decide) (by decide), e 133 (by decide) (by decide) (by decide), e 134 (by decide) (by decide) (by decide), e 138 (by decide) (by decide) (by decide), r1, r2, r3, r4, r5] at w2'
  have ew : w' = w := bsV_u (bsV_c (fun r hr1 => ok1_c (ygr r hr1).1 (ygr r hr1).2.1) (fun r hr1 => scr_c (ygr r hr1).2.1) w2') w2
  rw [D_X12_choose_0_den, D_X12_choose_0_eq, pm_box (n := n) (by rw [gIJ]; exact a7) a1, rb_bi, ibz, if_pos g1]
  simp only [dp_w]
  rw [← hN]
  have ge : (0 : Int32) ≤ R x ↔ ¬ R x = -1 := by rw [← i9.neg i2 hx]; exact ⟨fun q1 q2 => absurd q1 (Int32.not_le.mpr q2), fun q => Int32.not_lt.mp q⟩
  simp only [nI_cl (show x < 2147483648 by omega), nI_o (show x < 100 by omega) (by omega), if_false, (mn.2.2.2.1 x hx).1, ge]
  rw [hK]
  by_cases z2 : R x = -1
  · rw [if_neg (fun q => q z2), hm_here hx a1, rb_bi, ibz, e 117 (by decide) (by decide) (by decide), e 144 (by decide) (by decide) (by decide), b3, e144]
    by_cases z1 : dp_I M 9 x = 3 ∧ dp_I M 11 x = 0
    · rw [if_pos z1, w1', rb_bi, ew, if_pos ⟨z1, z2⟩]
    · rw [if_neg z1, if_neg (fun q => z1 q.1)]
  · rw [if_pos z2, if_neg (fun q => z2 q.2)]
/-- undo -/
theorem s_undo {n B T : Nat} (hy : HY M n B T) : ∃ v M1 M2, dp_den true xs xl (d + 4) 279 [.ref 0] M = iR v M1 ∧ dp_den true xs xl (d + 4) 417 [.ref 114] M1 = iR v M2 ∧ HY M2 n B T ∧ Off HY_S HY_T M M2 ∧ Cst 0 0 M M2 := by
  obtain ⟨hr, W, H, G, R, L, h, m, cy, my, yi, e144, ygr⟩ := hy
  have hy : HY M n B T := ⟨hr, W, H, G, R, L, h, m, cy, my, yi, e144, ygr⟩
  have yi0 := yi
  obtain ⟨i1, i2, i3, i4, i5, i6, i7, i8, i9, i10, i11, i12⟩ := yi
  have a7 : dp_I M 114 3 = nI n := hr.2.2.2.2.2.2.1
  rw [D_X11_undo_0_den, D_X11_undo_0_eq]
  cases h with
  | nil =>
    refine ⟨-1, M, dp_setI M 114 0 0, by rw [yc_back0 cy, rb_bi], ?_, hy.same⟩
    rw [D_X12_undo_0_den, D_X12_undo_0_eq]
    simp only [dp_w]
    rw [if_pos (show dp_I (dp_setI M 114 0 0) 114 38 = 0 from by rw [gII, if_pos rfl, uI_n (by decide)]; exact my.2.2.2.2.1), D_X12_undo_27_eq, if_pos (by decide)]
  | cons q h =>
    obtain ⟨x, f⟩ := q
    have hx := i10.1.1
    rw [List.length_cons] at i8
    obtain ⟨cb1, cb2⟩ := yc_back (xs := xs) (xl := xl) (d := d + 1) cy yi0
    have hm : ∀ N : dp_M, MY N n W H G R L ((x, f) :: h) m → dp_I N 144 = dp_I M 11 → dp_den true xs xl (d + 4) 417 [.ref 114] N = if dp_I M 11 x = 0 then dp_bv (dp_den true xs xl (d + 3) 408 [.ref 114, .int (nI x), .int f] (dp_setI (dp_setI (dp_setI (dp_setI N 114 0 0) 114 38 (nI h.length)) 114 37 (m - 1)) 140 x (-1))) (fun M4 => iR (nI x) M4) else iR (-1) (dp_setI N 114 0 0) := fun N mn en => by
      obtain ⟨n1, n2, n3, n4, n5, n6, n7⟩ := mn
      obtain ⟨p1, p2⟩ := n7 0 (by rw [List.length_cons]; omega)
      have p1' : dp_I N 142 h.length = nI x := p1
      have p2' : dp_I N 143 h.length = f := p2
      have n5' : dp_I N 114 38 = nI (h.length + 1) := n5
      rw [D_X12_undo_0_den, D_X12_undo_0_eq]
      simp only [dp_w, gII, if_true, uI_n (show (38 : Nat) ≠ 0 by decide), n5', Nat.reduceEqDiff, if_false, nI_pred, nI_cl (show h.length < 2147483648 by omega), nI_o (show h.length < 100 by omega) (by omega), p1', D_X12_undo_27_eq, nI_cl (show x < 2147483648 by omega), nI_o (show x < 100 by omega) (by omega), en, uI_n (show (37 : Nat) ≠ 38 by decide), uI_n (show (37 : Nat) ≠ 0 by decide), n6, uI_n (show (38 : Nat) ≠ 37 by decide), uI_s, p2']
      rw [if_neg (show ¬ nI (h.length + 1) = (0 : Int32) from fun e => absurd ((nI_eq (a := h.length + 1) (b := 0) (by omega) (by omega)).mp e) (by omega)), if_neg (nI_pos (by omega))]
    by_cases hs : dp_I M 11 x = 0
    · obtain ⟨C', c1, c2, c3, c4⟩ := cb2 hs
      have my1 : MY C' n W H G R L ((x, f) :: h) m := MY_off my c3 (by decide) (by decide)
      have e144' : dp_I C' 144 = dp_I M 11 := by rw [(c3.1 144 (by decide) (by decide) (by decide)).1]; exact e144
      obtain ⟨n1, n2, n3, n4, n5, n6, n7⟩ := my1
      obtain ⟨N, hN⟩ : ∃ N, N = dp_setI (dp_setI (dp_setI (dp_setI C' 114 0 0) 114 38 (nI h.length)) 114 37 (m - 1)) 140 x (-1) := ⟨_, rfl⟩
      have o1 : Off HY_S HY_T C' N := by rw [hN]; exact ((((Off.rr _ _ C').F 0 (by decide) _).F 38 (by decide) _).F 37 (by decide) _).I 140 (by decide) _ _
      have oM : Off HY_S HY_T M N := (c3.mono (by decide) (by decide) : Off HY_S HY_T M C').tr o1
      have f114 : ∀ i, i ≠ 0 → i ≠ 37 → i ≠ 38 → dp_I N 114 i = dp_I C' 114 i := fun i h1 h2 h4 => by rw [hN]; simp only [gII, Nat.reduceEqDiff, if_false, if_true, uI_n h1, uI_n h2, uI_n h4]
      have e140 : dp_I N 140 = uI (dp_I C' 140) x (-1) := by rw [hN]; simp only [gII, Nat.reduceEqDiff, if_false, if_true]
      have eo : ∀ k, k ≠ 114 → k ≠ 140 → dp_I N k = dp_I C' k := fun k h1 h2 => by rw [hN]; simp only [gII, if_neg h1, if_neg h2]
      have hf : f = -1 ∨ ∃ r, r < 20 ∧ f = nI r := i10.1.2.2.elim Or.inl (fun ⟨r, q1, q2, _⟩ => Or.inr ⟨r, by omega, q2⟩)
      have nb : dp_I N 114 3 = nI n := by rw [(oM.2.1 3 (by decide)).1]; exact a7
      obtain ⟨M2, p1, p2, p3, p4⟩ := ym_stands (xs := xs) (xl := xl) (d := d + 1) (M := N) (f := f) (R := R) (L := L) nb i7 hx hf (fun i hi hix => by rw [e140, uI_n hix]; exact (n4 i hi).1) (Or.inl (by rw [e140, uI_s])) (fun i hi => by rw [eo 141 (by decide) (by decide)]; exact (n4 i hi).2)
      have o2 : Off HY_S HY_T N M2 := p3.mono (by decide) (by decide)
      have g114 : ∀ i, dp_I M2 114 i = dp_I N 114 i := fun i => (p3.2.1 i (by simp)).1
      refine ⟨nI x, C', M2, by rw [c1, rb_bi], ?_, ?_, oM.tr o2, ?_⟩
      · rw [hm C' (MY_off my c3 (by decide) (by decide)) e144', if_pos hs, ← hN, p1, rb_bv]
      · refine HY.step hr e144 ygr (oM.tr o2) (CY_off (CY_off c2 (show Off (140 :: []) [0, 37, 38] C' N from by rw [hN]; exact ((((Off.rr _ _ C').F 0 (by decide) _).F 38 (by decide) _).F 37 (by decide) _).I 140 (by decide) _ _) (by decide)) p3 (by decide)) ?_ (yi0.undo hs)
        refine ⟨by rw [g114, f114 25 (by decide) (by decide) (by decide)]; exact n1, by rw [g114, f114 26 (by decide) (by decide) (by decide)]; exact n2, by rw [g114, f114 27 (by decide) (by decide) (by decide)]; exact n3, p2, ?_, ?_, fun j hj => ?_⟩
        · rw [g114, hN]; simp only [gII, Nat.reduceEqDiff, if_false, if_true, uI_n (show (38 : Nat) ≠ 37 by decide), uI_s]
        · rw [g114, hN]; simp only [gII, Nat.reduceEqDiff, if_false, if_true, uI_s]
        · have e142 : dp_I M2 142 = dp_I C' 142 := by rw [(p3.1 142 (by decide) (by decide) (by decide)).1]; exact eo 142 (by decide) (by decide)
          have e143 : dp_I M2 143 = dp_I C' 143 := by rw [(p3.1 143 (by decide) (by decide) (by decide)).1]; exact eo 143 (by decide) (by decide)
          have := n7 (j + 1) (by rw [List.length_cons]; omega)
          rw [List.length_cons, show h.length + 1 - 1 - (j + 1) = h.length - 1 - j by omega] at this
          rw [e142, e143]; exact this
      · exact (c4.tr0 (by rw [hN]; exact ⟨Nat.le_refl _, Nat.le_refl _⟩)).tr0 p4
    · refine ⟨-1, M, dp_setI M 114 0 0, by rw [cb1 hs, rb_bi], by rw [hm M my e144, if_neg hs], hy.same⟩
end YH
