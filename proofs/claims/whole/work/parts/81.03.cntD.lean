-- needs: 71 72 73 74 75 76 77 78 79 80
/-! COUNT: of one place; all -/
section CnD
variable {xs : Nat → Int32} {xl d : Nat} {M : dp_M}
theorem wi64 {a b : Int32} {x y : Int64} (v : Int32) (hx : x = a.toInt64) (hy : y = b.toInt64) : (x ≤ v.toInt64 ∧ v.toInt64 ≤ y) ↔ (a.toInt ≤ v.toInt ∧ v.toInt ≤ b.toInt) := by
  rw [hx, hy, Int64.le_iff_toInt_le, Int64.le_iff_toInt_le, Int32.toInt_toInt64, Int32.toInt_toInt64, Int32.toInt_toInt64]
/-- not one of the first 41: one of something -/
theorem c_one {v1 : Int32} (h : ¬ (0 ≤ v1.toInt ∧ v1.toInt ≤ 40)) : dp_den true xs xl (d + 8) 359 [.ref 0, .int v1] M = dp_bi (dp_den true xs xl (d + 7) 364 [.ref 0, .int (v1 / (100 : Int32)), .int (v1 - v1 / (100 : Int32) * (100 : Int32))] M) (fun r12 M11 => some (.inl (some (.int r12)), M11)) := by
  have n : ∀ (a b : Int32) (x y : Int64), x = a.toInt64 → y = b.toInt64 → 0 ≤ a.toInt → b.toInt ≤ 40 → ¬ (x ≤ v1.toInt64 ∧ v1.toInt64 ≤ y) := fun a b x y hx hy ha hb q => by
    rw [wi64 v1 hx hy] at q; omega
  rw [D_X11_count_0_den, D_X11_count_0_eq, q_win, rb_bi, ibz, if_neg (n 0 10 0 10 (by decide) (by decide) (by decide) (by decide)), q_win, rb_bi, ibz, if_neg (n 11 19 11 19 (by decide) (by decide) (by decide) (by decide)), q_win, rb_bi, ibz, if_neg (n 20 27 20 27 (by decide) (by decide) (by decide) (by decide)), q_win, rb_bi, ibz, if_neg (n 28 34 28 34 (by decide) (by decide) (by decide) (by decide)), q_win, rb_bi, ibz, if_neg (n 35 40 35 40 (by decide) (by decide) (by decide) (by decide))]
theorem lt_c {v : Int32} {k : Nat} (hk : k < 2147483648) : v < nI k ↔ v.toInt < (k : Int) := by rw [Int32.lt_iff_toInt_lt, nI_toInt hk]
theorem ge_c {v : Int32} {k : Nat} (hk : k < 2147483648) : nI k ≤ v ↔ (k : Int) ≤ v.toInt := by rw [Int32.le_iff_toInt_le, nI_toInt hk]
theorem gt_c {v : Int32} {k : Nat} (hk : k < 2147483648) : nI k < v ↔ (k : Int) < v.toInt := by rw [Int32.lt_iff_toInt_lt, nI_toInt hk]
theorem eq_c {v : Int32} {k : Nat} (hk : k < 2147483648) : v = nI k ↔ v.toInt = (k : Int) := by rw [← Int32.toInt_inj, nI_toInt hk]
/-- below 100 and not one of the first 41: the model knows nothing -/
theorem m_none {v1 : Int32} (h1 : v1.toInt < 100) (h : ¬ (0 ≤ v1.toInt ∧ v1.toInt ≤ 40)) : dp_den true xs xl (d + 8) 590 [.ref 114, .int v1] M = iR (-1) (dp_setI M 114 0 0) := by
  have ne : ∀ k : Nat, k ≤ 40 → ¬ v1 = nI k := fun k hk q => by rw [eq_c (by omega)] at q; omega
  have b22 : ∀ N, D_X12_countOfBooks_22 xs xl (d + 6) v1 N = iR (-1) N := fun N => by
    rw [D_X12_countOfBooks_22_eq, if_neg (show ¬ v1 = (19 : Int32) from ne 19 (by omega)), if_neg (show ¬ v1 = (20 : Int32) from ne 20 (by omega)), if_neg (show ¬ v1 = (21 : Int32) from ne 21 (by omega)), if_neg (show ¬ v1 = (22 : Int32) from ne 22 (by omega)), if_neg (show ¬ v1 = (23 : Int32) from ne 23 (by omega)), if_neg (show ¬ v1 = (24 : Int32) from ne 24 (by omega)), if_neg (show ¬ v1 = (25 : Int32) from ne 25 (by omega)), if_neg (show ¬ v1 = (26 : Int32) from ne 26 (by omega)), if_neg (show ¬ v1 = (27 : Int32) from ne 27 (by omega)), if_neg (show ¬ v1 = (28 : Int32) from ne 28 (by omega)), if_neg (show ¬ v1 = (29 : Int32) from ne 29 (by omega)), if_neg (show ¬ v1 = (30 : Int32) from ne 30 (by omega)), if_neg (show ¬ v1 = (31 : Int32) from ne 31 (by omega)), if_neg (show ¬ v1 = (32 : Int32) from ne 32 (by omega)), if_neg (show ¬ v1 = (33 : Int32) from ne 33 (by omega)), if_neg (show ¬ v1 = (34 : Int32) from ne 34 (by omega)), if_neg (show ¬ v1 = (35 : Int32) from ne 35 (by omega))]
    by_cases z : v1.toInt < 36
    · rw [if_pos (show v1 < (36 : Int32) from (lt_c (k := 36) (by omega)).mpr z)]
    · rw [if_neg (show ¬ v1 < (36 : Int32) from fun q => z ((lt_c (k := 36) (by omega)).mp q)), if_pos (show (40 : Int32) < v1 from (gt_c (k := 40) (by omega)).mpr (by omega))]
  have b39 : ∀ N, D_X12_count_39 xs xl (d + 7) v1 N = iR (-1) N := fun N => by
    rw [D_X12_count_39_eq, if_neg (show ¬ v1 = (0 : Int32) from ne 0 (by omega)), if_neg (show ¬ v1 = (1 : Int32) from ne 1 (by omega)), if_neg (show ¬ v1 = (2 : Int32) from ne 2 (by omega)), if_neg (show ¬ v1 = (3 : Int32) from ne 3 (by omega)), if_neg (show ¬ v1 = (4 : Int32) from ne 4 (by omega)), if_neg (show ¬ v1 = (5 : Int32) from ne 5 (by omega)), if_neg (show ¬ v1 = (6 : Int32) from ne 6 (by omega)), if_neg (show ¬ v1 = (7 : Int32) from ne 7 (by omega)), if_neg (show ¬ v1 = (8 : Int32) from ne 8 (by omega)), if_neg (show ¬ v1 = (9 : Int32) from ne 9 (by omega)), if_neg (show ¬ v1 = (10 : Int32) from ne 10 (by omega)), if_neg (show ¬ v1 = (11 : Int32) from ne 11 (by omega)), if_neg (show ¬ v1 = (12 : Int32) from ne 12 (by omega)), if_neg (show ¬ v1 = (13 : Int32) from ne 13 (by omega)), if_neg (show ¬ v1 = (14 : Int32) from ne 14 (by omega)), if_neg (show ¬ v1 = (15 : Int32) from ne 15 (by omega)), if_neg (show ¬ v1 = (16 : Int32) from ne 16 (by omega)), if_neg (show ¬ v1 = (17 : Int32) from ne 17 (by omega)), if_neg (show ¬ v1 = (18 : Int32) from ne 18 (by omega)), D_X12_countOfBooks_0_den, D_X12_countOfBooks_0_eq]
    by_cases z : v1.toInt < 24
    · rw [if_pos (show v1 < (24 : Int32) from (lt_c (k := 24) (by omega)).mpr z), b22, rb_bi]
    · rw [if_neg (show ¬ v1 < (24 : Int32) from fun q => z ((lt_c (k := 24) (by omega)).mp q)), if_pos (show (28 : Int32) ≤ v1 from (ge_c (k := 28) (by omega)).mpr (by omega)), b22, rb_bi]
  rw [D_X12_count_0_den, D_X12_count_0_eq, dpw, if_pos (show v1 < (100 : Int32) from (lt_c (k := 100) (by omega)).mpr h1)]
  by_cases z : v1.toInt < 11
  · rw [if_pos (show v1 < (11 : Int32) from (lt_c (k := 11) (by omega)).mpr z), b39]
  · rw [if_neg (show ¬ v1 < (11 : Int32) from fun q => z ((lt_c (k := 11) (by omega)).mp q)), if_pos (show (15 : Int32) ≤ v1 from (ge_c (k := 15) (by omega)).mpr (by omega)), b39]
theorem dv_neg {v1 : Int32} (h1 : v1.toInt < 100) (k : Nat) (hk : 1 ≤ k) (hk2 : k ≤ 6) : ¬ v1 / (100 : Int32) = nI k := fun q => by
  rw [eq_c (by omega), Int32.toInt_div] at q
  have e : (100 : Int32).toInt = 100 := by decide
  rw [e] at q
  have b1 := Int32.le_toInt v1
  have b2 := Int32.toInt_lt v1
  by_cases z : 0 ≤ v1.toInt
  · have : v1.toInt.tdiv 100 = 0 := Int.tdiv_eq_zero_of_lt z h1
    rw [this] at q
    have : (Int.bmod 0 (2 ^ 32)) = 0 := by decide
    omega
  · have t1 : v1.toInt.tdiv 100 = -((-v1.toInt).tdiv 100) := by rw [Int.neg_tdiv, Int.neg_neg]
    have t2 : (-v1.toInt).tdiv 100 = (-v1.toInt) / 100 := Int.tdiv_eq_ediv_of_nonneg (by omega)
    rw [t1, t2] at q
    have t3 : (-((-v1.toInt) / 100)).bmod (2 ^ 32) = -((-v1.toInt) / 100) := by apply Int.bmod_eq_of_le <;> omega
    rw [t3] at q
    omega
/-- of one place, where nothing is asked for that there is -/
theorem c_one0 {W : Nat} {q w : Int32} (hW : dp_I M 28 1 = nI W) (hW2 : W ≤ 20) (hq : ∀ k : Nat, 1 ≤ k → k ≤ 6 → ¬ q = nI k) : dp_den true xs xl (d + 7) 364 [.ref 0, .int q, .int w] M = iR (-1) M := by
  rw [D_X11_countOfOne_0_den, D_X11_countOfOne_0_eq, if_neg (show ¬ q = (1 : Int32) from hq 1 (by omega) (by omega)), if_neg (show ¬ q = (6 : Int32) from hq 6 (by omega) (by omega)), pc_yrd (d := d + 4) hW hW2, rb_bi, ibz]
  by_cases z : qin w W
  · rw [if_pos z, if_neg (show ¬ q = (2 : Int32) from hq 2 (by omega) (by omega)), if_neg (show ¬ q = (3 : Int32) from hq 3 (by omega) (by omega)), if_neg (show ¬ q = (4 : Int32) from hq 4 (by omega) (by omega)), if_neg (show ¬ q = (5 : Int32) from hq 5 (by omega) (by omega))]
  · rw [if_neg z]
theorem s_place {n B T c q w : Nat} (hp : PR M n B T c) (ht : RelT M) (hw : w < 100) (hq1 : 1 ≤ q) (hq2 : q * 100 + w < 2147483648) : ∃ v, dp_den true xs xl (d + 7) 364 [.ref 0, .int (nI q), .int (nI w)] M = iR v M ∧ dp_den true xs xl (d + 7) 588 [.ref 114, .int (nI (q * 100 + w))] (dp_setI M 114 0 0) = iR v (dp_setI M 114 0 0) := by
  obtain ⟨⟨⟨h1, h2⟩, -⟩, -⟩ := hp
  obtain ⟨a1, a2, a3, a4, a5, a6, a7, a8, a9, a10, a11, a12, l1, l2, l3, r1, r2, r3, r4, r5, r6, r7, r8, r9, r10, r11, r12, hpl⟩ := h1
  obtain ⟨W, H, G, R, L, hs, m, cy, my, yi, ew, er⟩ := h2
  obtain ⟨i1, i2, i3, i4, i5, i6, i7, i8, i9, -⟩ := yi
  obtain ⟨N, hN⟩ : ∃ N, N = dp_setI M 114 0 0 := ⟨_, rfl⟩
  have oN : Off [] [0] M N := by rw [hN]; exact (Off.rr _ _ M).F 0 (by decide) 0
  have nN : ∀ q, q ≠ 114 → dp_I N q = dp_I M q := fun q h => by rw [hN, gII, if_neg h]
  have nT : ∀ q, q ≠ 0 → dp_I N 114 q = dp_I M 114 q := fun q h => by rw [hN, gII, if_pos rfl, uI_n h]
  have mn : MY N n W H G R L hs m := MY_off my oN (by decide) (by decide)
  have n3 : dp_I N 114 3 = nI n := by rw [nT _ (by decide)]; exact a7
  obtain ⟨m1, m2, m3, m4, m5⟩ := MYc mn
  have c1 := cy.1
  have mr : dp_I N 114 25 = nI W := mn.1
  have mb : dp_I N 114 1 = nI B := by rw [nT _ (by decide)]; exact a9
  have dv : nI (q * 100 + w) / (100 : Int32) = nI q := by
    rw [show (100 : Int32) = nI 100 from rfl, q_dv (by omega) (by omega) (by omega)]
    congr 1; omega
  have md : nI (q * 100 + w) - nI (q * 100 + w) / (100 : Int32) * (100 : Int32) = nI w := by
    rw [show (100 : Int32) = nI 100 from rfl, q_rm (by omega) (by omega) (by omega)]
    congr 1; omega
  have ne : ∀ k : Nat, k ≤ 6 → ¬ q = k → ¬ nI q = nI k := fun k hk h e => h (by rw [nI_eq (by omega) (by omega)] at e; exact e)
  rw [← hN]
  have ml : dp_den true xs xl (d + 7) 588 [.ref 114, .int (nI (q * 100 + w))] N = D_X12_countOfPlace_0 xs xl (d + 6) (nI (q * 100 + w)) N := by rw [D_X12_countOfPlace_0_den]
  by_cases q1 : q = 1
  · subst q1
    by_cases z : qin (nI w) B
    · obtain ⟨b, hb, eb⟩ := qin_of z (by omega)
      have ewb : w = b := by rw [nI_eq (by omega) (by omega)] at eb; exact eb
      subst ewb
      have no : ¬ (nI w < 0 ∨ 12 ≤ w) := by rw [nI_o (show w < 12 by omega) (by omega)]; exact id
      have nb : ¬ (nI w < 0 ∨ B ≤ w) := by rw [nI_o hb (by omega)]; exact id
      have mdl : D_X12_countOfPlace_0 xs xl (d + 6) (nI (1 * 100 + w)) N = if dp_I M 120 w = 0 then iR (-1) N else iR (dp_I M 121 w - dp_I M 122 w) N := by
        rw [D_X12_countOfPlace_0_eq, md, dv, dpw, if_pos (show nI 1 = (1 : Int32) from rfl), pm_bay (d := d + 5) mb (by omega), rb_bi, ibz, if_pos z, pm_bay (d := d + 5) mb (by omega), rb_bi, ibz, if_pos z, D_X12_countOfPlace_73_eq, nI_cl (by omega), if_neg no, nN 120 (by decide), nN 121 (by decide), nN 122 (by decide), if_neg no, if_neg no]
      have cls : dp_den true xs xl (d + 7) 364 [.ref 0, .int (nI 1), .int (nI w)] M = dp_bi (dp_den true xs xl (d + 6) 69 [.ref 1, .int (nI w)] M) (fun r4 M3 => some (.inl (some (.int r4)), M3)) := by
        rw [D_X11_countOfOne_0_den, D_X11_countOfOne_0_eq, if_pos (show nI 1 = (1 : Int32) from rfl), pc_bay (d := d + 4) a8 (by omega), rb_bi, ibz, if_pos z]
      rcases hpl w hb with ⟨p1, p2⟩ | ⟨p1, Lp, e, p2, p3, p4, p5, p6, p7, -⟩
      · refine ⟨-1, ?_, ?_⟩
        · rw [cls, D_X2_movesLeft_0_den, D_X2_movesLeft_0_eq, nI_cl (by omega), l1, if_neg nb, show dp_I M 25 w = -1 from p2, if_pos rfl, rb_bi]
        · rw [ml, mdl, show dp_I M 120 w = 0 from p1, if_pos rfl]
      · refine ⟨nI Lp - nI e, ?_, ?_⟩
        · rw [cls, D_X2_movesLeft_0_den, D_X2_movesLeft_0_eq, nI_cl (by omega), l1, if_neg nb, show dp_I M 25 w = nI Lp from p4, if_neg (m1n (by omega)), if_neg nb, l2, if_neg nb, show dp_I M 26 w = nI e from p6, rb_bi]
        · rw [ml, mdl, show dp_I M 120 w = 1 from p1, if_neg one_ne, show dp_I M 121 w = nI Lp from p5, show dp_I M 122 w = nI e from p7]
    · refine ⟨-1, ?_, ?_⟩
      · rw [D_X11_countOfOne_0_den, D_X11_countOfOne_0_eq, if_pos (show nI 1 = (1 : Int32) from rfl), pc_bay (d := d + 4) a8 (by omega), rb_bi, ibz, if_neg z]
      · rw [ml, D_X12_countOfPlace_0_eq, md, dv, dpw, if_pos (show nI 1 = (1 : Int32) from rfl), pm_bay (d := d + 5) mb (by omega), rb_bi, ibz, if_neg z]
  by_cases q6 : q = 6
  · subst q6
    have n5 : ∀ k : Nat, k ≤ 5 → ¬ nI 6 = nI k := fun k hk => ne k (by omega) (by omega)
    have wg : ((16 : Int64) ≤ (nI w).toInt64 ∧ (nI w).toInt64 ≤ 23) ↔ wi (nI w) 16 23 := by rw [wi_64 (a := 16) (b := 23) 16 23 (by decide) (by decide)]
    have ml6 : D_X12_countOfPlace_0 xs xl (d + 6) (nI (6 * 100 + w)) N = dp_bi (dp_den true xs xl (d + 6) 443 [.int (nI w)] N) (fun r19 M18 => if r19 = 0 then (some (.inl (some (.int (-1 : Int32))), M18)) else (dp_bi (dp_den true xs xl (d + 6) 448 [.ref 114, .int (nI w)] M18) (fun r21 M20 => dp_bi (dp_den true xs xl (d + 6) 447 [.int (r21 &&& (65535 : Int32))] M20) (fun r23 M22 => some (.inl (some (.int r23)), M22))))) := by
      rw [D_X12_countOfPlace_0_eq, md, dv, dpw, if_neg (show ¬ nI 6 = (1 : Int32) from n5 1 (by omega)), if_neg (show ¬ nI 6 = (2 : Int32) from n5 2 (by omega)), if_neg (show ¬ nI 6 = (3 : Int32) from n5 3 (by omega)), if_neg (show ¬ nI 6 = (4 : Int32) from n5 4 (by omega)), if_neg (show ¬ nI 6 = (5 : Int32) from n5 5 (by omega)), if_pos (show nI 6 = (6 : Int32) from rfl)]
    have cl6 : dp_den true xs xl (d + 7) 364 [.ref 0, .int (nI 6), .int (nI w)] M = if wi (nI w) 16 23 then (dp_bi (dp_den true xs xl (d + 6) 211 [.ref 51, .int (nI w)] M) (fun r8 M7 => dp_bi (dp_den true xs xl (d + 6) 591 [.int r8] M7) (fun r10 M9 => some (.inl (some (.int r10)), M9)))) else iR (-1) M := by
      rw [D_X11_countOfOne_0_den, D_X11_countOfOne_0_eq, if_neg (show ¬ nI 6 = (1 : Int32) from n5 1 (by omega)), if_pos (show nI 6 = (6 : Int32) from rfl), q_win, rb_bi, ibz]
      by_cases z : wi (nI w) 16 23
      · rw [if_pos (wg.mpr z), if_pos z]
      · rw [if_neg (fun y => z (wg.mp y)), if_neg z]
    by_cases z : wi (nI w) 16 23
    · obtain ⟨s, hs8, ewb⟩ : ∃ s, s < 8 ∧ w = 16 + s := by
        have z' := wg.mpr z
        rw [Int64.le_iff_toInt_le, Int64.le_iff_toInt_le, nJ64 (by omega)] at z'
        have e1 : (16 : Int64).toInt = 16 := by decide
        have e2 : (23 : Int64).toInt = 23 := by decide
        exact ⟨w - 16, by omega, by omega⟩
      subst ewb
      obtain ⟨Rr, Kk, -, -, -, -, -, -, -, -, t7, -⟩ := ht
      have eM : dp_I N 155 = dp_I M 155 := nN _ (by decide)
      obtain ⟨X, hX⟩ : ∃ X, X = rds (dp_I M 155) (dp_I M 155 s) 8 &&& (65535 : Int32) := ⟨_, rfl⟩
      have b65 : ∀ j, j < 32 → tb (65535 : Int32) j = decide (j < 16) := by decide
      have eX : rds (fun g => dp_I M 65 (16 + g)) ((1 : Int32) <<< (nI (16 + s) &&& 31)) 8 &&& (65535 : Int32) = X := by
        rw [rds_c t7 8, hX]
        refine tb_ext (fun j hj => ?_)
        rw [tb_and, tb_and, rds_grp hs8 hj, b65 j hj]
        by_cases y : j < 16
        · rw [decide_eq_false (show ¬ j = 16 + s by omega), Bool.false_or]
        · rw [decide_eq_false y, Bool.and_false, Bool.and_false]
      have hi16 : ∀ j, 16 ≤ j → tb X j = false := fun j hj => by
        by_cases y : j < 32
        · rw [hX, tb_and, b65 j y, decide_eq_false (show ¬ j < 16 by omega), Bool.and_false]
        · exact tb_ge (by omega)
      refine ⟨nI (pc X), ?_, ?_⟩
      · rw [cl6, if_pos z, D_X9_landsIn_0_den, D_X9_landsIn_0_eq, tc_reach (d := d + 4) (by omega), rb_bi, rb_bi, eX, tj_bc (d := d + 5) hi16, rb_bi]
      · rw [ml, ml6, tm_group (d := d + 4), rb_bi, ibz, if_pos z, tm_allIn (d := d + 5) hs8, rb_bi, tm_bits (d := d + 5), rb_bi, eM, ← hX]
    · refine ⟨-1, by rw [cl6, if_neg z], ?_⟩
      rw [ml, ml6, tm_group (d := d + 4), rb_bi, ibz, if_neg z]
  -- rows of the yard
  have c0 : dp_den true xs xl (d + 7) 364 [.ref 0, .int (nI q), .int (nI w)] M = if qin (nI w) W then (if nI q = (2 : Int32) then (if nI w < 0 ∨ W ≤ w then none else iR (dp_I M 33 w) M) else if nI q = (3 : Int32) then (dp_bi (dp_den true xs xl (d + 6) 230 [.ref 28, .int (nI w)] M) (fun r14 M13 => some (.inl (some (.int r14)), M13))) else if nI q = (4 : Int32) then (if nI w < 0 ∨ W ≤ w then none else iR (dp_I M 34 w) M) else if nI q = (5 : Int32) then (if nI w < 0 ∨ W ≤ w then none else iR (dp_I M 35 w) M) else iR (-1) M) else iR (-1) M := by
    rw [D_X11_countOfOne_0_den, D_X11_countOfOne_0_eq, if_neg (show ¬ nI q = (1 : Int32) from ne 1 (by omega) q1), if_neg (show ¬ nI q = (6 : Int32) from ne 6 (by omega) q6), pc_yrd (d := d + 4) c1 i2, rb_bi, ibz]
    simp only [nI_cl (show w < 2147483648 by omega), cy.2.2.2.1, cy.2.2.2.2.1, cy.2.2.2.2.2.1]
  have m0 : D_X12_countOfPlace_0 xs xl (d + 6) (nI (q * 100 + w)) N = if nI q = (2 : Int32) then (dp_bi (dp_den true xs xl (d + 6) 395 [.ref 114, .int (nI w)] N) (fun r7 M6 => if r7 = 0 then (some (.inl (some (.int (-1 : Int32))), M6)) else (dp_bi (dp_den true xs xl (d + 6) 396 [.ref 114, .int (nI w)] M6) (fun r9 M8 => some (.inl (some (.int r9)), M8))))) else if nI q = (3 : Int32) then (dp_bi (dp_den true xs xl (d + 6) 395 [.ref 114, .int (nI w)] N) (fun r11 M10 => if r11 = 0 then (some (.inl (some (.int (-1 : Int32))), M10)) else (dp_bi (dp_den true xs xl (d + 6) 397 [.ref 114, .int (nI w)] M10) (fun r13 M12 => some (.inl (some (.int r13)), M12))))) else if nI q = (4 : Int32) then (dp_bi (dp_den true xs xl (d + 6) 395 [.ref 114, .int (nI w)] N) (fun r15 M14 => if r15 = 0 then (some (.inl (some (.int (-1 : Int32))), M14)) else (if nI w < 0 ∨ 20 ≤ w then none else (some (.inl (some (.int (dp_I M14 133 w))), M14))))) else if nI q = (5 : Int32) then (dp_bi (dp_den true xs xl (d + 6) 395 [.ref 114, .int (nI w)] N) (fun r17 M16 => if r17 = 0 then (some (.inl (some (.int (-1 : Int32))), M16)) else (if nI w < 0 ∨ 20 ≤ w then none else (some (.inl (some (.int (dp_I M16 134 w))), M16))))) else iR (-1) N := by
    rw [D_X12_countOfPlace_0_eq, md, dv, dpw, if_neg (show ¬ nI q = (1 : Int32) from ne 1 (by omega) q1), if_neg (show ¬ nI q = (6 : Int32) from ne 6 (by omega) q6), nI_cl (by omega)]
  have yr := pm_yrd (xs := xs) (xl := xl) (d := d + 5) (v := nI w) mr i2
  by_cases z : qin (nI w) W
  · obtain ⟨b, hb, eb⟩ := qin_of z (by omega)
    have ewb : w = b := by rw [nI_eq (by omega) (by omega)] at eb; exact eb
    subst ewb
    have nw : ¬ (nI w < 0 ∨ W ≤ w) := by rw [nI_o hb (by omega)]; exact id
    have n2 : ¬ (nI w < 0 ∨ 20 ≤ w) := by rw [nI_o (show w < 20 by omega) (by omega)]; exact id
    obtain ⟨er1, er2, -⟩ := er w hb
    by_cases y2 : q = 2
    · subst y2
      refine ⟨nI (hR R n w), ?_, ?_⟩
      · rw [c0, if_pos z, if_pos (show nI 2 = (2 : Int32) from rfl), if_neg nw, show dp_I M 33 w = nI (hR R n w) from cy.2.2.2.2.2.2.2.2.2.1 w hb]
      · rw [ml, m0, if_pos (show nI 2 = (2 : Int32) from rfl), yr, rb_bi, ibz, if_pos z, ym_hgt (d := d + 5) n3 a1, rb_bi, m1]; rfl
    · by_cases y3 : q = 3
      · subst y3
        refine ⟨wtR R (dp_I M 5) n (nI w), ?_, ?_⟩
        · rw [c0, if_pos z, if_neg (show ¬ nI 3 = (2 : Int32) by decide), if_pos (show nI 3 = (3 : Int32) from rfl), yc_wt (d := d + 4) cy i9 a1 hb i2 i4, rb_bi]
        · rw [ml, m0, if_neg (show ¬ nI 3 = (2 : Int32) by decide), if_pos (show nI 3 = (3 : Int32) from rfl), yr, rb_bi, ibz, if_pos z, ym_wt (d := d + 5) n3 a1, rb_bi, m3, nN _ (by decide), r8]
      · by_cases y4 : q = 4
        · subst y4
          refine ⟨dp_I M 34 w, ?_, ?_⟩
          · rw [c0, if_pos z, if_neg (show ¬ nI 4 = (2 : Int32) by decide), if_neg (show ¬ nI 4 = (3 : Int32) by decide), if_pos (show nI 4 = (4 : Int32) from rfl), if_neg nw]
          · rw [ml, m0, if_neg (show ¬ nI 4 = (2 : Int32) by decide), if_neg (show ¬ nI 4 = (3 : Int32) by decide), if_pos (show nI 4 = (4 : Int32) from rfl), yr, rb_bi, ibz, if_pos z, if_neg n2, nN 133 (by decide), show dp_I M 133 w = dp_I M 34 w from er1]
        · by_cases y5 : q = 5
          · subst y5
            refine ⟨dp_I M 35 w, ?_, ?_⟩
            · rw [c0, if_pos z, if_neg (show ¬ nI 5 = (2 : Int32) by decide), if_neg (show ¬ nI 5 = (3 : Int32) by decide), if_neg (show ¬ nI 5 = (4 : Int32) by decide), if_pos (show nI 5 = (5 : Int32) from rfl), if_neg nw]
            · rw [ml, m0, if_neg (show ¬ nI 5 = (2 : Int32) by decide), if_neg (show ¬ nI 5 = (3 : Int32) by decide), if_neg (show ¬ nI 5 = (4 : Int32) by decide), if_pos (show nI 5 = (5 : Int32) from rfl), yr, rb_bi, ibz, if_pos z, if_neg n2, nN 134 (by decide), show dp_I M 134 w = dp_I M 35 w from er2]
          · refine ⟨-1, ?_, ?_⟩
            · rw [c0, if_pos z, if_neg (show ¬ nI q = (2 : Int32) from ne 2 (by omega) y2), if_neg (show ¬ nI q = (3 : Int32) from ne 3 (by omega) y3), if_neg (show ¬ nI q = (4 : Int32) from ne 4 (by omega) y4), if_neg (show ¬ nI q = (5 : Int32) from ne 5 (by omega) y5)]
            · rw [ml, m0, if_neg (show ¬ nI q = (2 : Int32) from ne 2 (by omega) y2), if_neg (show ¬ nI q = (3 : Int32) from ne 3 (by omega) y3), if_neg (show ¬ nI q = (4 : Int32) from ne 4 (by omega) y4), if_neg (show ¬ nI q = (5 : Int32) from ne 5 (by omega) y5)]
  · refine ⟨-1, by rw [c0, if_neg z], ?_⟩
    rw [ml, m0]
    simp only [yr, rb_bi, ibz, if_neg z]
    repeat' split
    all_goals rfl
/-- count -/
theorem s_count {n B T c : Nat} (hp : PR M n B T c) (hl : RelL M) (hq : RelQ M) (ht : RelT M) (hr : RelR M) (hs : RelS M) (hd : RelD M) (v1 : Int32) : ∃ v, dp_den true xs xl (d + 8) 359 [.ref 0, .int v1] M = iR v M ∧ dp_den true xs xl (d + 8) 590 [.ref 114, .int v1] M = iR v (dp_setI M 114 0 0) := by
  have b2 := Int32.toInt_lt v1
  by_cases z : 0 ≤ v1.toInt ∧ v1.toInt ≤ 40
  · obtain ⟨k, hk, rfl⟩ : ∃ k : Nat, k ≤ 40 ∧ v1 = nI k := ⟨v1.toInt.toNat, by omega, Int32.toInt_inj.mp (by rw [nI_toInt (by omega)]; omega)⟩
    by_cases z1 : k ≤ 10
    · exact s_port hp z1
    · exact s_books hp hl hq ht hr hs hd (by omega) hk
  have hW : ∃ W, dp_I M 28 1 = nI W ∧ W ≤ 20 := by
    obtain ⟨⟨⟨-, h2⟩, -⟩, -⟩ := hp
    obtain ⟨W, H, G, R, L, hs, m, cy, my, yi, -⟩ := h2
    exact ⟨W, cy.1, yi.2.1⟩
  obtain ⟨W, hW1, hW2⟩ := hW
  by_cases z1 : v1.toInt < 100
  · refine ⟨-1, ?_, m_none z1 z⟩
    rw [c_one z, c_one0 hW1 hW2 (fun k h1 h2 => dv_neg z1 k h1 h2), rb_bi]
  · obtain ⟨k, hk, hk2, rfl⟩ : ∃ k : Nat, 100 ≤ k ∧ k < 2147483648 ∧ v1 = nI k := ⟨v1.toInt.toNat, by omega, by omega, Int32.toInt_inj.mp (by rw [nI_toInt (by omega)]; omega)⟩
    obtain ⟨v, e1, e2⟩ := s_place (xs := xs) (xl := xl) (d := d) (q := k / 100) (w := k % 100) hp ht (by omega) (by omega) (by omega)
    have ek : k / 100 * 100 + k % 100 = k := by omega
    rw [ek] at e2
    refine ⟨v, ?_, ?_⟩
    · have dv : nI k / (100 : Int32) = nI (k / 100) := by rw [show (100 : Int32) = nI 100 from rfl, q_dv (by omega) (by omega) (by omega)]
      have md : nI k - nI k / (100 : Int32) * (100 : Int32) = nI (k % 100) := by rw [show (100 : Int32) = nI 100 from rfl, q_rm (by omega) (by omega) (by omega)]
      rw [c_one z, md, dv, e1, rb_bi]
    · rw [D_X12_count_0_den, D_X12_count_0_eq, dpw, if_neg (show ¬ nI k < (100 : Int32) from fun q => z1 ((lt_c (k := 100) (by omega)).mp q)), e2, rb_bi]
end CnD
