-- needs: 75
/-! YARD: class and model side by side -/
def HY (M : dp_M) (n B T : Nat) : Prop := HR M n B T ∧ YR M n
def HY_S : List Nat := [245, 28, 29, 30, 31, 32, 33, 36, 140, 141, 142, 143]
def HY_T : List Nat := [0, 25, 26, 27, 37, 38]
theorem brk_p {n H G : Nat} {R L wt sz sp kd gd rs : Nat → Int32} {x r : Nat} : brk n H G R L wt sz sp kd gd rs x r ≤ 0 ↔ brk n H G R L wt sz sp kd gd rs x r = 0 := by
  unfold brk
  split
  · decide
  split
  · decide
  split
  · decide
  split
  · decide
  split
  · decide
  split
  · decide
  split <;> decide
section YF
variable {xs : Nat → Int32} {xl d : Nat} {M : dp_M}
theorem HY.same {n B T : Nat} (h : HY M n B T) : HY (dp_setI M 114 0 0) n B T ∧ Off HY_S HY_T M (dp_setI M 114 0 0) ∧ Cst 0 0 M (dp_setI M 114 0 0) :=
  ⟨⟨h.1.same.1, YR_off h.2 ((Off.rr [] [0] M).F 0 (by decide) 0) (by decide) (by decide)⟩, (Off.rr _ _ M).F 0 (by decide) 0, ⟨Nat.le_refl _, Nat.le_refl _⟩⟩
theorem HY.refused {n B T : Nat} (h : HY M n B T) (hn : 246 ≤ dp_n M) (k : Int32) : HY (dp_setI (dp_new M 0 0 6) 114 0 k) n B T ∧ Off HY_S HY_T M (dp_setI (dp_new M 0 0 6) 114 0 k) ∧ Cst 1 6 M (dp_setI (dp_new M 0 0 6) 114 0 k) :=
  ⟨⟨(h.1.refused hn k).1, YR_off h.2 (h.1.refused hn k).2.1 (by decide) (by decide)⟩, ((Off.rr _ _ M).N hn 0 0 6).F 0 (by decide) k, ⟨Nat.le_refl _, Nat.le_refl _⟩⟩
theorem HY.looked {n B T : Nat} (h : HY M n B T) (v : Int64) : HY (dp_setI (dp_setJ M 245 0 v) 114 0 0) n B T ∧ Off HY_S HY_T M (dp_setI (dp_setJ M 245 0 v) 114 0 0) ∧ Cst 1 6 M (dp_setI (dp_setJ M 245 0 v) 114 0 0) :=
  ⟨⟨(h.1.looked v).1, YR_off h.2 (h.1.looked v).2.1 (by decide) (by decide)⟩, ((Off.rr _ _ M).J 245 (by decide) 0 v).F 0 (by decide) 0, ⟨Nat.le_add_right _ _, Nat.le_add_right _ _⟩⟩
/-- behind a move -/
theorem HY.step {n B T W H G : Nat} {R L : Nat → Int32} {h : List (Nat × Int32)} {m : Int32} {M2 : dp_M} (hr : HR M n B T) (e144 : dp_I M 144 = dp_I M 11) (ygr : ∀ r, r < W → dp_I M 133 r = dp_I M 34 r ∧ dp_I M 134 r = dp_I M 35 r ∧ qin (dp_I M 35 r) 10) (o : Off HY_S HY_T M M2) (cy : CY M2 n W H G R L h m) (my : MY M2 n W H G R L h m) (yi : YI n W H G R L h (dp_I M 9) (dp_I M 11)) : HY M2 n B T := by
  have e : ∀ k, k ∈ [9, 11, 34, 35, 133, 134, 144] → dp_I M2 k = dp_I M k := fun k hk => (o.1 k (by simp only [List.mem_cons, List.not_mem_nil, or_false] at hk; omega) (by simp only [HY_S, List.mem_cons, List.not_mem_nil, or_false] at hk ⊢; omega) (by simp only [List.mem_cons, List.not_mem_nil, or_false] at hk; omega)).1
  refine ⟨HR_off hr o (by decide) (by decide), W, H, G, R, L, h, m, cy, my, ?_, ?_, ?_⟩
  · rw [e 9 (by decide), e 11 (by decide)]; exact yi
  · rw [e 144 (by decide), e 11 (by decide)]; exact e144
  · intro r h1; rw [e 133 (by decide), e 134 (by decide), e 34 (by decide), e 35 (by decide)]; exact ygr r h1
theorem pc_yrd {v : Int32} {n : Nat} (h : dp_I M 28 1 = nI n) (hn : n ≤ 20) : dp_den true xs xl (d + 2) 254 [.ref 0, .int v] M = iR (bI (qin v n)) M := by
  rw [D_X11_isYardRow_0_den, D_X11_isYardRow_0_eq]; exact q_cn h (by omega)
theorem pm_yrd {v : Int32} {n : Nat} (h : dp_I M 114 25 = nI n) (hn : n ≤ 20) : dp_den true xs xl (d + 1) 395 [.ref 114, .int v] M = iR (bI (qin v n)) M := by
  rw [D_X12_isYardRow_0_den, D_X12_isYardRow_0_eq]; exact q_mr h (by omega)
/-- at -/
theorem s_at {n B T : Nat} (hy : HY M n B T) (hn : 246 ≤ dp_n M) (v1 v2 : Int32) : ∃ k b M1 M2, dp_den true xs xl (d + 5) 608 [.ref 0, .int v1, .int v2, .ref 245] M = iR k M1 ∧ dp_den true xs xl (d + 5) 420 [.ref 114, .int v1, .int v2] M1 = iR b M2 ∧
    dp_I M2 114 0 = k ∧ (k = 0 → dp_J M2 245 0 = b.toInt64) ∧ HY M2 n B T ∧ Off HY_S HY_T M M2 ∧ Cst 1 6 M M2 := by
  obtain ⟨hr, W, H, G, R, L, h, m, cy, my, yi, e144, ygr⟩ := hy
  have hy : HY M n B T := ⟨hr, W, H, G, R, L, h, m, cy, my, yi, e144, ygr⟩
  obtain ⟨i1, i2, i3, i4, i5, i6, i7, i8, i9, -⟩ := yi
  have c1 := cy.1
  have c2 := cy.2.1
  have m1 := my.1
  have m2 := my.2.1
  have a7 : dp_I M 114 3 = nI n := hr.2.2.2.2.2.2.1
  have eH : (nI H).toInt64 - 1 = (nI H - 1).toInt64 := by
    have : H = 1 ∨ H = 2 ∨ H = 3 ∨ H = 4 ∨ H = 5 ∨ H = 6 ∨ H = 7 ∨ H = 8 := by omega
    rcases this with rfl | rfl | rfl | rfl | rfl | rfl | rfl | rfl <;> rfl
  by_cases g : qin v1 W ∧ qin v2 H
  case neg =>
    refine ⟨1, 0, dp_new M 0 0 6, _, wL_at_x2 ?_, ?_, rfl, (fun e => by cases e), hy.refused hn 1⟩
    · rw [D_X11_at_0_den, D_X11_at_0_eq, pc_yrd c1 i2, rb_bi, ibz]
      simp only [c2, q_win, rb_bi, ibz, q_nk hn, q_w (show H < 2147483648 by omega)]
      by_cases z1 : qin v1 W
      · rw [if_pos z1, if_neg (fun q => g ⟨z1, q⟩)]
      · rw [if_neg z1]
    · rw [D_X12_at_0_den, D_X12_at_0_eq, pm_yrd (n := W) (by rw [gIN (by omega)]; exact m1) i2, rb_bi, ibz]
      simp only [gIN (show 114 < dp_n M by omega), m2, eH, q_min, rb_bi, ibz, q_ref, q_w (show H < 2147483648 by omega)]
      by_cases z1 : qin v1 W
      · rw [if_pos z1, if_neg (fun q => g ⟨z1, q⟩)]
      · rw [if_neg z1]
  obtain ⟨g1, g2⟩ := g
  obtain ⟨r, hr1, rfl⟩ := qin_of g1 (by omega)
  have hcl : dp_den true xs xl (d + 4) 281 [.ref 0, .int (nI r), .int v2] M = iR (bxa R L (nI r) v2 n) M := by
    rw [D_X11_at_0_den, D_X11_at_0_eq, pc_yrd c1 i2, rb_bi, ibz]
    simp only [c2, q_win, rb_bi, ibz, q_w (show H < 2147483648 by omega)]
    rw [if_pos g1, if_pos g2, yc_at cy i9 i7 hr1 i2 i4, rb_bi]
  refine ⟨0, bxa R L (nI r) v2 n, _, dp_setI (dp_setJ M 245 0 (bxa R L (nI r) v2 n).toInt64) 114 0 0, wL_at_ok hcl, ?_, by simp [gII, uI], fun _ => by simp [gJI, gJJ, uI], hy.looked _⟩
  rw [D_X12_at_0_den, D_X12_at_0_eq, pm_yrd (n := W) (by rw [gIJ]; exact m1) i2, rb_bi, ibz]
  simp only [gIJ, m2, eH, q_min, rb_bi, ibz, q_w (show H < 2147483648 by omega), dp_w]
  rw [if_pos g1, if_pos g2]
  have my' : MY (dp_setI (dp_setJ M 245 0 (bxa R L (nI r) v2 n).toInt64) 114 0 0) n W H G R L h m := MY_off my (((Off.rr [245] [0] M).J 245 (by decide) 0 _).F 0 (by decide) 0) (by decide) (by decide)
  rw [ym_at (n := n) (by simp [gII, gIJ, gIR, gJI, gJJ, gJR, gRI, gRJ, glI, glJ, glR, uI, a7]) i7, rb_bi, (MYc my').2.1]
/-- ground -/
theorem s_ground {n B T : Nat} (hy : HY M n B T) (v1 v2 : Int32) : ∃ v M1 M2, dp_den true xs xl (d + 4) 272 [.ref 0, .int v1, .int v2] M = iR v M1 ∧ dp_den true xs xl (d + 4) 406 [.ref 114, .int v1, .int v2] M1 = iR v M2 ∧ HY M2 n B T ∧ Off (34 :: 133 :: HY_S) HY_T M M2 ∧ Cst 0 0 M M2 := by
  obtain ⟨hr, W, H, G, R, L, h, m, cy, my, yi, e144, ygr⟩ := hy
  have hy : HY M n B T := ⟨hr, W, H, G, R, L, h, m, cy, my, yi, e144, ygr⟩
  have yi0 := yi
  obtain ⟨i1, i2, i3, i4, i5, i6, i7, i8, i9, -⟩ := yi
  have cy0 := cy
  obtain ⟨c1, c2, c3, c4, c5, c6, c7, c8, c9, c10, c11, -⟩ := cy
  have m1 := my.1
  have a7 : dp_I M 114 3 = nI n := hr.2.2.2.2.2.2.1
  obtain ⟨s1, s2, s3⟩ := hy.same
  have sm : HY (dp_setI M 114 0 0) n B T ∧ Off (34 :: 133 :: HY_S) HY_T M (dp_setI M 114 0 0) ∧ Cst 0 0 M (dp_setI M 114 0 0) := ⟨s1, (Off.rr _ _ M).F 0 (by decide) 0, s3⟩
  have hm : ∀ N : dp_M, dp_I N 114 25 = nI W → dp_I N 114 3 = nI n → (∀ v, ct (rwf (dp_I N 140) v) n = ct (rwf R v) n) → dp_den true xs xl (d + 4) 406 [.ref 114, .int v1, .int v2] N = if qin v1 W ∧ qin v2 3 ∧ ct (rwf R v1) n = 0 then iR 1 (dp_setI (dp_setI N 114 0 0) 133 v1.toNatClampNeg v2) else iR 0 (dp_setI N 114 0 0) := fun N e1 e2 e3 => by
    rw [D_X12_ground_0_den, D_X12_ground_0_eq]
    simp only [dp_w]
    rw [pm_yrd (n := W) (by rw [gII, if_pos rfl, uI_n (by decide)]; exact e1) i2, rb_bi, ibz]
    simp only [q_min, rb_bi, ibz, w_2]
    by_cases z1 : qin v1 W
    case neg => rw [if_neg z1, if_neg (fun q => z1 q.1)]
    rw [if_pos z1]
    by_cases z2 : qin v2 3
    case neg => rw [if_neg z2, if_neg (fun q => z2 q.2.1)]
    rw [if_pos z2, ym_hgt (n := n) (by rw [gII, if_pos rfl, uI_n (by decide)]; exact e2) i7, rb_bi, show dp_I (dp_setI N 114 0 0) 140 = dp_I N 140 from by rw [gII, if_neg (by decide)], e3]
    obtain ⟨r, hr1, rfl⟩ := qin_of z1 (by omega)
    have hct : ct (rwf R (nI r)) n ≤ n := ct_le _ _
    simp only [nI_cl (show r < 2147483648 by omega), nI_o (show r < 20 by omega) (by omega), if_false]
    by_cases z3 : ct (rwf R (nI r)) n = 0
    · rw [if_pos (show nI (ct (rwf R (nI r)) n) ≤ 0 by rw [z3]; decide), if_pos ⟨z1, z2, z3⟩]
    · rw [if_neg (show ¬ nI (ct (rwf R (nI r)) n) ≤ (0 : Int32) from nI_nge (i := 0) (n := ct (rwf R (nI r)) n) (by omega) (by omega)), if_neg (fun q => z3 q.2.2)]
  have mc := (MYc my).1
  rw [D_X11_ground_0_den, D_X11_ground_0_eq, pc_yrd c1 i2, rb_bi, ibz]
  simp only [q_win, rb_bi, ibz, w_2]
  by_cases g : qin v1 W ∧ qin v2 3 ∧ ct (rwf R v1) n = 0
  case neg =>
    refine ⟨0, M, dp_setI M 114 0 0, ?_, by rw [hm M m1 a7 mc, if_neg g], sm⟩
    by_cases z1 : qin v1 W
    case neg => rw [if_neg z1]
    rw [if_pos z1]
    by_cases z2 : qin v2 3
    case neg => rw [if_neg z2]
    rw [if_pos z2]
    obtain ⟨r, hr1, rfl⟩ := qin_of z1 (by omega)
    have hct : ct (rwf R (nI r)) n ≤ n := ct_le _ _
    simp only [nI_cl (show r < 2147483648 by omega), c4, nI_o hr1 (by omega), if_false, c10 r hr1]
    have z3 : ¬ ct (rwf R (nI r)) n = 0 := fun q => g ⟨z1, z2, q⟩
    rw [if_neg (show ¬ nI (hR R n r) ≤ (0 : Int32) from nI_nge (i := 0) (n := hR R n r) (by unfold hR; omega) (by unfold hR; omega))]
  obtain ⟨g1, g2, g3⟩ := g
  have g1' := g1
  obtain ⟨r, hr1, rfl⟩ := qin_of g1 (by omega)
  obtain ⟨K, hK⟩ : ∃ K, K = dp_setI (dp_setI (dp_setI M 34 r v2) 114 0 0) 133 r v2 := ⟨_, rfl⟩
  have o1 : Off (34 :: 133 :: HY_S) HY_T M K := by rw [hK]; exact (((Off.rr _ _ M).I 34 (by decide) _ _).F 0 (by decide) _).I 133 (by decide) _ _
  refine ⟨1, dp_setI M 34 r v2, K, ?_, ?_, ?_, o1, by rw [hK]; exact ⟨Nat.le_refl _, Nat.le_refl _⟩⟩
  · rw [if_pos g1', if_pos g2]
    simp only [nI_cl (show r < 2147483648 by omega), c4, c5, nI_o hr1 (by omega), if_false, c10 r hr1]
    rw [if_pos (show nI (hR R n r) ≤ 0 by rw [show hR R n r = 0 from g3]; decide)]
    rfl
  · rw [hm _ (by rw [gII, if_neg (by decide)]; exact m1) (by rw [gII, if_neg (by decide)]; exact a7) (by rw [gII, if_neg (by decide)]; exact mc), if_pos ⟨g1', g2, g3⟩, nI_cl (by omega), hK]
  · have o2 : Off [34, 133] [0] M K := by rw [hK]; exact (((Off.rr _ _ M).I 34 (by decide) _ _).F 0 (by decide) _).I 133 (by decide) _ _
    refine ⟨HR_off hr o2 (by decide) (by decide), W, H, G, R, L, h, m, CY_off cy0 o2 (by decide), MY_off my o2 (by decide) (by decide), ?_, ?_, fun r' hr' => ?_⟩
    · have e9 : dp_I K 9 = dp_I M 9 := (o2.1 9 (by decide) (by decide) (by decide)).1
      have e11 : dp_I K 11 = dp_I M 11 := (o2.1 11 (by decide) (by decide) (by decide)).1
      rw [e9, e11]; exact yi0
    · rw [(o2.1 144 (by decide) (by decide) (by decide)).1, (o2.1 11 (by decide) (by decide) (by decide)).1]; exact e144
    · rw [(o2.1 134 (by decide) (by decide) (by decide)).1, (o2.1 35 (by decide) (by decide) (by decide)).1]
      obtain ⟨q1, q2⟩ := ygr r' hr'
      refine ⟨?_, q2⟩
      rw [hK]; simp only [gII, Nat.reduceEqDiff, if_false, if_true]
      unfold uI; split
      · rfl
      · exact q1
/-- reserve -/
theorem s_reserve {n B T : Nat} (hy : HY M n B T) (v1 v2 : Int32) : ∃ v M1 M2, dp_den true xs xl (d + 4) 273 [.ref 0, .int v1, .int v2] M = iR v M1 ∧ dp_den true xs xl (d + 4) 407 [.ref 114, .int v1, .int v2] M1 = iR v M2 ∧ HY M2 n B T ∧ Off (35 :: 134 :: HY_S) HY_T M M2 ∧ Cst 0 0 M M2 := by
  obtain ⟨hr, W, H, G, R, L, h, m, cy, my, yi, e144, ygr⟩ := hy
  have hy : HY M n B T := ⟨hr, W, H, G, R, L, h, m, cy, my, yi, e144, ygr⟩
  have yi0 := yi
  obtain ⟨i1, i2, i3, i4, i5, i6, i7, i8, i9, -⟩ := yi
  have cy0 := cy
  obtain ⟨c1, c2, c3, c4, c5, c6, c7, c8, c9, c10, c11, -⟩ := cy
  have m1 := my.1
  have a7 : dp_I M 114 3 = nI n := hr.2.2.2.2.2.2.1
  have b10 : dp_I M 139 = dp_I M 7 := hr.2.2.2.2.2.2.2.2.2.2.2.2.2.2.2.2.2.2.2.2.2.2.2.2.1
  obtain ⟨s1, s2, s3⟩ := hy.same
  have sm : HY (dp_setI M 114 0 0) n B T ∧ Off (35 :: 134 :: HY_S) HY_T M (dp_setI M 114 0 0) ∧ Cst 0 0 M (dp_setI M 114 0 0) := ⟨s1, (Off.rr _ _ M).F 0 (by decide) 0, s3⟩
  have cw : ((0 : Int64) ≤ v2.toInt64 ∧ v2.toInt64 ≤ (9 : Int64)) = qin v2 10 := w_9
  have hm : ∀ N : dp_M, dp_I N 114 25 = nI W → dp_I N 114 3 = nI n → dp_I N 139 = dp_I M 7 → (∀ i, i < n → dp_I N 140 i = R i) → dp_den true xs xl (d + 4) 407 [.ref 114, .int v1, .int v2] N = if qin v1 W ∧ qin v2 10 ∧ (v2 = 0 ∨ ¬ an (othf R (dp_I M 7) v1 v2) n = true) then iR 1 (dp_setI (dp_setI N 114 0 0) 134 v1.toNatClampNeg v2) else iR 0 (dp_setI N 114 0 0) := fun N e1 e2 e3 e4 => by
    rw [D_X12_reserve_0_den, D_X12_reserve_0_eq]
    simp only [dp_w]
    rw [pm_yrd (n := W) (by rw [gII, if_pos rfl, uI_n (by decide)]; exact e1) i2, rb_bi, ibz]
    simp only [q_min, rb_bi, ibz, cw]
    by_cases z1 : qin v1 W
    case neg => rw [if_neg z1, if_neg (fun q => z1 q.1)]
    rw [if_pos z1]
    by_cases z2 : qin v2 10
    case neg => rw [if_neg z2, if_neg (fun q => z2 q.2.1)]
    rw [if_pos z2]
    obtain ⟨N', hN'⟩ : ∃ N', N' = dp_setI N 114 0 0 := ⟨_, rfl⟩
    rw [← hN']
    have f3 : dp_I N' 114 3 = nI n := by rw [hN', gII, if_pos rfl, uI_n (by decide)]; exact e2
    have f139 : dp_I N' 139 = dp_I M 7 := by rw [hN', gII, if_neg (by decide)]; exact e3
    have f140 : ∀ i, i < n → dp_I N' 140 i = R i := fun i hi => by rw [hN', gII, if_neg (by decide)]; exact e4 i hi
    obtain ⟨r, hr1, rfl⟩ := qin_of z1 (by omega)
    have hz : v2 ≤ 0 ↔ v2 = 0 := by
      have := qin_iff.mp z2
      have e0 : (0 : Int32).toInt = 0 := by decide
      rw [Int32.le_iff_toInt_le, ← Int32.toInt_inj, e0]; omega
    have fin : D_X12_reserve_29 xs xl (d + 3) (nI r) v2 (nI n) N' = iR 1 (dp_setI N' 134 r v2) := by
      rw [D_X12_reserve_29_eq, f3, if_pos (nI_lle (Nat.le_refl _) (by omega))]
      simp only [nI_cl (show r < 2147483648 by omega), nI_o (show r < 20 by omega) (by omega), if_false, dp_w]
    have stp : ∀ i rr, i < n → ¬ (¬ v2 = 0 ∧ othf R (dp_I M 7) (nI r) v2 i = true) → D_X12_reserve_29 xs xl (d + 3) (nI r) v2 (nI (i + 1)) N' = some rr → D_X12_reserve_29 xs xl (d + 3) (nI r) v2 (nI i) N' = some rr := fun i rr hi q hr2 => by
      rw [D_X12_reserve_29_eq, f3, if_neg (nI_nge hi (by omega))]
      simp only [hz, nI_cl (show i < 2147483648 by omega), nI_o (show i < 100 by omega) (by omega), if_false, dp_w, nI_1, f139, f140 i hi]
      by_cases y1 : v2 = 0
      · rw [if_pos y1]; exact hr2
      · rw [if_neg y1]
        by_cases y2 : R i = nI r
        · rw [if_pos y2]
          by_cases y3 : dp_I M 7 i = v2
          · rw [if_pos y3]; exact hr2
          · exact absurd ⟨y1, othf_t.mpr ⟨y2, y3⟩⟩ q
        · rw [if_neg y2]; exact hr2
    by_cases z3 : v2 = 0 ∨ ¬ an (othf R (dp_I M 7) (nI r) v2) n = true
    · rw [if_pos ⟨z1, z2, z3⟩, nI_cl (by omega)]
      refine lpf (F := fun i => D_X12_reserve_29 xs xl (d + 3) (nI r) v2 (nI i) N') (a := 0) (j := n) (Nat.zero_le _) (fun i _ hi hr2 => stp i _ hi (fun q => ?_) hr2) fin
      rcases z3 with q1 | q1
      · exact q.1 q1
      · exact q1 (an_iff.mpr ⟨i, hi, q.2⟩)
    · rw [if_neg (fun q => z3 q.2.2)]
      have z4 : ¬ v2 = 0 := fun q => z3 (Or.inl q)
      have z5 : an (othf R (dp_I M 7) (nI r) v2) n = true := Classical.not_not.mp (fun q => z3 (Or.inr q))
      rcases fst_or (othf R (dp_I M 7) (nI r) v2) 0 n with ⟨j, -, j1, j2, j3⟩ | q
      · refine lpf (F := fun i => D_X12_reserve_29 xs xl (d + 3) (nI r) v2 (nI i) N') (a := 0) (j := j) (Nat.zero_le _) (fun i _ hi hr2 => stp i _ (by omega) (fun q => by rw [j3 i (by omega) hi] at q; exact absurd q.2 (by decide)) hr2) ?_
        obtain ⟨q1, q2⟩ := othf_t.mp j2
        (try dsimp only)
        rw [D_X12_reserve_29_eq, f3, if_neg (nI_nge j1 (by omega))]
        simp only [hz, nI_cl (show j < 2147483648 by omega), nI_o (show j < 100 by omega) (by omega), if_false, f139, f140 j j1]
        rw [if_neg z4, if_pos q1, if_neg q2]
      · obtain ⟨j, j1, j2⟩ := an_iff.mp z5
        rw [q j (by omega) j1] at j2; cases j2
  have r140 : ∀ i, i < n → dp_I M 140 i = R i := fun i hi => (my.2.2.2.1 i hi).1
  rw [D_X11_reserve_0_den, D_X11_reserve_0_eq, pc_yrd c1 i2, rb_bi, ibz]
  simp only [q_win, rb_bi, ibz, cw]
  by_cases g : qin v1 W ∧ qin v2 10 ∧ (v2 = 0 ∨ ¬ an (othf R (dp_I M 7) v1 v2) n = true)
  case neg =>
    refine ⟨0, M, dp_setI M 114 0 0, ?_, by rw [hm M m1 a7 b10 r140, if_neg g], sm⟩
    by_cases z1 : qin v1 W
    case neg => rw [if_neg z1]
    rw [if_pos z1]
    by_cases z2 : qin v2 10
    case neg => rw [if_neg z2]
    rw [if_pos z2, if_neg (fun q => g ⟨z1, z2, Or.inl q⟩)]
    obtain ⟨r, hr1, rfl⟩ := qin_of z1 (by omega)
    rw [yc_osp cy0 i9 i7 hr1 i2 i4, rb_bi, ibz, if_pos (Classical.not_not.mp (fun q => g ⟨z1, z2, Or.inr q⟩))]
  obtain ⟨g1, g2, g3⟩ := g
  have g1' := g1
  obtain ⟨r, hr1, rfl⟩ := qin_of g1 (by omega)
  obtain ⟨K, hK⟩ : ∃ K, K = dp_setI (dp_setI (dp_setI M 35 r v2) 114 0 0) 134 r v2 := ⟨_, rfl⟩
  have o1 : Off (35 :: 134 :: HY_S) HY_T M K := by rw [hK]; exact (((Off.rr _ _ M).I 35 (by decide) _ _).F 0 (by decide) _).I 134 (by decide) _ _
  refine ⟨1, dp_setI M 35 r v2, K, ?_, ?_, ?_, o1, by rw [hK]; exact ⟨Nat.le_refl _, Nat.le_refl _⟩⟩
  · rw [if_pos g1', if_pos g2]
    simp only [nI_cl (show r < 2147483648 by omega), c6, nI_o hr1 (by omega), if_false, dp_w]
    by_cases y1 : v2 = 0
    · rw [if_pos y1]
    · rw [if_neg y1, yc_osp cy0 i9 i7 hr1 i2 i4, rb_bi, ibz, if_neg (g3.resolve_left y1)]
      simp only [c6, nI_o hr1 (by omega), if_false]
  · rw [hm _ (by rw [gII, if_neg (by decide)]; exact m1) (by rw [gII, if_neg (by decide)]; exact a7) (by rw [gII, if_neg (by decide)]; exact b10) (fun i hi => by rw [gII, if_neg (by decide)]; exact r140 i hi), if_pos ⟨g1', g2, g3⟩, nI_cl (by omega), hK]
  · have o2 : Off [35, 134] [0] M K := by rw [hK]; exact (((Off.rr _ _ M).I 35 (by decide) _ _).F 0 (by decide) _).I 134 (by decide) _ _
    refine ⟨HR_off hr o2 (by decide) (by decide), W, H, G, R, L, h, m, CY_off cy0 o2 (by decide), MY_off my o2 (by decide) (by decide), ?_, ?_, fun r' hr' => ?_⟩
    · have e9 : dp_I K 9 = dp_I M 9 := (o2.1 9 (by decide) (by decide) (by decide)).1
      have e11 : dp_I K 11 = dp_I M 11 := (o2.1 11 (by decide) (by decide) (by decide)).1
      rw [e9, e11]; exact yi0
    · rw [(o2.1 144 (by decide) (by decide) (by decide)).1, (o2.1 11 (by decide) (by decide) (by decide)).1]; exact e144
    · rw [(o2.1 133 (by decide) (by decide) (by decide)).1, (o2.1 34 (by decide) (by decide) (by decide)).1]
      obtain ⟨q1, q2, q3⟩ := ygr r' hr'
      refine ⟨q1, ?_⟩
      rw [hK]; simp only [gII, Nat.reduceEqDiff, if_false, if_true]
      unfold uI; split
      · exact ⟨rfl, g2⟩
      · exact ⟨q2, q3⟩
end YF
