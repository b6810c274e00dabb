-- needs: 71 72 73 74 75 76 77 78 79 80
/-! COUNT: how many of the port -/
section CnC
variable {xs : Nat → Int32} {xl d : Nat} {M : dp_M}
/-- the model's counts of boxes -/
theorem mm_1 {N : dp_M} {n : Nat} (h : dp_I N 114 3 = nI n) (hn : n ≤ 100) : dp_den true xs xl (d + 1) 585 [.ref 114, .int (1 : Int32)] N = iR (nI (ct (fun i => decide (dp_I N 117 i = 3)) n)) N :=
  mm_many h hn (fun i v2 hi => by
    rw [D_X12_manyBoxes_4_eq, show dp_I N 114 3 = nI n from h, if_neg (nI_nge hi (by omega)), if_pos rfl, nI_cl (by omega), if_neg (by rw [nI_o (show i < 100 by omega) (by omega)]; exact id)]
    by_cases z : dp_I N 117 i = 3
    · rw [if_pos z, bI_t (decide_eq_true z)]
    · rw [if_neg z, bI_f (by rw [decide_eq_false z]; decide)])
theorem mm_2 {N : dp_M} {n : Nat} (h : dp_I N 114 3 = nI n) (hn : n ≤ 100) : dp_den true xs xl (d + 1) 585 [.ref 114, .int (2 : Int32)] N = iR (nI (ct (fun i => decide (dp_I N 117 i = 4)) n)) N :=
  mm_many h hn (fun i v2 hi => by
    rw [D_X12_manyBoxes_4_eq, show dp_I N 114 3 = nI n from h, if_neg (nI_nge hi (by omega)), if_neg (by decide), if_pos rfl, nI_cl (by omega), if_neg (by rw [nI_o (show i < 100 by omega) (by omega)]; exact id)]
    by_cases z : dp_I N 117 i = 4
    · rw [if_pos z, bI_t (decide_eq_true z)]
    · rw [if_neg z, bI_f (by rw [decide_eq_false z]; decide)])
theorem mm_4 {N : dp_M} {n : Nat} (h : dp_I N 114 3 = nI n) (hn : n ≤ 100) : dp_den true xs xl (d + 1) 585 [.ref 114, .int (4 : Int32)] N = iR (nI (ct (fun i => decide (¬ dp_I N 140 i < 0)) n)) N :=
  mm_many h hn (fun i v2 hi => by
    rw [D_X12_manyBoxes_4_eq, show dp_I N 114 3 = nI n from h, if_neg (nI_nge hi (by omega)), if_neg (by decide), if_neg (by decide), if_pos rfl, nI_cl (by omega), if_neg (by rw [nI_o (show i < 100 by omega) (by omega)]; exact id)]
    by_cases z : dp_I N 140 i < 0
    · rw [if_pos z, bI_f (by rw [decide_eq_false (fun q => q z)]; decide)]
    · rw [if_neg z, bI_t (decide_eq_true z)])
theorem mm_10 {N : dp_M} {n : Nat} (h : dp_I N 114 3 = nI n) (hn : n ≤ 100) : dp_den true xs xl (d + 1) 585 [.ref 114, .int (10 : Int32)] N = iR (nI (ct (fun i => decide (dp_I N 144 i = 1)) n)) N :=
  mm_many h hn (fun i v2 hi => by
    rw [D_X12_manyBoxes_4_eq, show dp_I N 114 3 = nI n from h, if_neg (nI_nge hi (by omega)), if_neg (by decide), if_neg (by decide), if_neg (by decide), if_neg (by decide), nI_cl (by omega), if_neg (by rw [nI_o (show i < 100 by omega) (by omega)]; exact id)]
    by_cases z : dp_I N 144 i = 1
    · rw [if_pos z, bI_t (decide_eq_true z)]
    · rw [if_neg z, bI_f (by rw [decide_eq_false z]; decide)])
theorem mm_7 {N : dp_M} {n : Nat} {p : Nat → Bool} (h : dp_I N 114 3 = nI n) (hn : n ≤ 100) (hp : ∀ i, i < n → dp_den true xs xl d 418 [.ref 114, .int (nI i)] N = iR (bI (p i = true)) N) : dp_den true xs xl (d + 1) 585 [.ref 114, .int (7 : Int32)] N = iR (nI (ct p n)) N :=
  mm_many h hn (fun i v2 hi => by
    rw [D_X12_manyBoxes_4_eq, show dp_I N 114 3 = nI n from h, if_neg (nI_nge hi (by omega)), if_neg (by decide), if_neg (by decide), if_neg (by decide), if_pos rfl, hp i hi, rb_bi])
theorem s_port {n B T c : Nat} (hp : PR M n B T c) {k : Nat} (hk : k ≤ 10) : ∃ v, dp_den true xs xl (d + 8) 359 [.ref 0, .int (nI k)] M = iR v M ∧ dp_den true xs xl (d + 8) 590 [.ref 114, .int (nI k)] M = iR v (dp_setI M 114 0 0) := by
  obtain ⟨⟨⟨h1, h2⟩, -⟩, ⟨-, t, sq, -, t1, t2⟩, ⟨K, D, -, -, g1, g2, -⟩, -⟩ := hp
  obtain ⟨a1, a2, a3, a4, a5, a6, a7, a8, a9, a10, a11, a12, l1, l2, l3, r1, r2, r3, r4, r5, r6, r7, r8, r9, r10, -⟩ := h1
  obtain ⟨W, H, G, R, L, hs, m, cy, my, yi, ew, -⟩ := h2
  obtain ⟨i1, i2, i3, i4, i5, i6, i7, i8, i9, -⟩ := yi
  obtain ⟨N, hN⟩ : ∃ N, N = dp_setI M 114 0 0 := ⟨_, rfl⟩
  have oN : Off [] [0] M N := by rw [hN]; exact (Off.rr _ _ M).F 0 (by decide) 0
  have nN : ∀ q, q ≠ 114 → dp_I N q = dp_I M q := fun q h => by rw [hN, gII, if_neg h]
  have n3 : dp_I N 114 3 = nI n := by rw [hN, gII, if_pos rfl, uI_n (by decide)]; exact a7
  have mn : MY N n W H G R L hs m := MY_off my oN (by decide) (by decide)
  have b1 : dp_I M 114 3 = dp_I M 1 2 := by rw [show dp_I M 114 3 = nI n from a7, show dp_I M 1 2 = nI n from a6]
  have s117 : dp_I N 117 = dp_I M 9 := by rw [nN 117 (by decide)]; exact r3
  have cs : k = 0 ∨ k = 1 ∨ k = 2 ∨ k = 3 ∨ k = 4 ∨ k = 5 ∨ k = 6 ∨ k = 7 ∨ k = 8 ∨ k = 9 ∨ k = 10 := by omega
  rcases cs with rfl | rfl | rfl | rfl | rfl | rfl | rfl | rfl | rfl | rfl | rfl
  · exact cw_0 b1
  · refine cw_1 (v := nI (ct (fun i => decide (dp_I M 9 i = 3)) n)) (fun {d} => hc_in a6 a1) ?_
    rw [← hN, mm_1 n3 a1, s117]
  · refine cw_2 (v := nI (ct (fun i => decide (dp_I M 9 i = 4)) n)) (fun {d} => hc_in a6 a1) ?_
    rw [← hN, mm_2 n3 a1, s117]
  · exact cw_3 a12
  · refine cw_4 (v := nI (suH R n W)) (fun {d} => yc_stand cy i2) ?_
    rw [← hN, mm_4 n3 a1, suH_ct W i2]
    congr 2
    refine ct_c (fun i hi => ?_)
    have e : dp_I N 140 i = R i := (mn.2.2.2.1 i hi).1
    rw [e, Bool.eq_iff_iff, decide_eq_true_eq, an_iff]
    rcases i9.1 i hi with ⟨q, -⟩ | ⟨r, l, q1, q2, q3, q4⟩
    · rw [q]
      refine ⟨fun w => absurd (by decide) w, fun ⟨r, x1, x2⟩ => ?_⟩
      exact absurd (of_decide_eq_true x2).symm (m1n (by omega))
    · rw [q3]
      exact ⟨fun _ => ⟨r, q1, decide_eq_true rfl⟩, fun _ => r_nn (by omega)⟩
  · refine cw_5 ?_
    have x : dp_I M 28 14 = m := cy.2.2.2.2.2.2.2.2.2.2.2.2.1
    have y : dp_I M 114 37 = m := my.2.2.2.2.2.1
    exact y.trans x.symm
  · refine cw_6 ?_
    have x : dp_I M 28 13 = nI hs.length := cy.2.2.2.2.2.2.2.2.2.2.2.1
    have y : dp_I M 114 38 = nI hs.length := my.2.2.2.2.1
    exact y.trans x.symm
  · refine cw_7 (v := nI (ct (itw n (dp_I M 6) R L) n)) (fun {d} => yc_way cy i9 a6 a1 i2 i4) ?_
    rw [← hN]
    refine mm_7 (d := d + 6) n3 a1 (fun x hx => ?_)
    obtain ⟨m1, m2, m3, m4, m5⟩ := MYc mn
    have a4 := mn.2.2.2.1
    rw [D_X12_isInTheWay_0_den, D_X12_isInTheWay_0_eq]
    simp only [nI_cl (show x < 2147483648 by omega), nI_o (show x < 100 by omega) (by omega), if_false, (a4 x hx).1, (a4 x hx).2, i9.neg i2 hx]
    have key : (if sbw n (dp_I M 6) R L x ≤ 0 then (0 : Int32) else 1) = bI (itw n (dp_I M 6) R L x = true) := by
      unfold itw
      by_cases z : sbw n (dp_I M 6) R L x ≤ 0
      · rw [if_pos z, bI_f (by rw [decide_eq_false (fun q => q z)]; decide)]
      · rw [if_neg z, bI_t (decide_eq_true z)]
    rw [← key]
    unfold sbw
    by_cases z : R x = -1
    · rw [if_pos z]; simp only [if_pos z]; rfl
    · rw [if_neg z, ym_soo n3 i7 hx, rb_bi, m5, nN 138 (by decide), r9]
      simp only [if_neg z]
      split <;> rfl
  · exact cw_8 (g2.trans g1.symm)
  · exact cw_9 (t2.1.trans t1.1.symm)
  · refine cw_10 (v := nI (ct (fun i => decide (dp_I M 11 i = 1)) n)) (fun {d} => hc_stay a6 a1) ?_
    rw [← hN, mm_10 n3 a1, nN 144 (by decide), show dp_I M 144 = dp_I M 11 from ew]
theorem s_books {n B T c : Nat} (hp : PR M n B T c) (hl : RelL M) (hq : RelQ M) (ht : RelT M) (hr : RelR M) (hs : RelS M) (hd : RelD M) {k : Nat} (h1 : 11 ≤ k) (h2 : k ≤ 40) : ∃ v, dp_den true xs xl (d + 8) 359 [.ref 0, .int (nI k)] M = iR v M ∧ dp_den true xs xl (d + 8) 590 [.ref 114, .int (nI k)] M = iR v (dp_setI M 114 0 0) := by
  obtain ⟨-, -, -, -, -, -, -, -, p7⟩ := hp
  obtain ⟨Bt, E, -, -, l1, l2, l3, l4, l5, l6, l7, l8, l9, -⟩ := hl
  obtain ⟨O, A, -, -, q1, q2, -⟩ := hq
  obtain ⟨R, K, -, -, t1, t2, -, t4, t5, -⟩ := ht
  obtain ⟨-, ⟨TL, u1, u2, -⟩, -, P, -, w1, w2, -⟩ := hr
  obtain ⟨Gs, Rs, hG, hR, s1, s2, s3, s4, s5, -, s7, s8, s9, -, -, -, -, -, -, s16, -⟩ := hs
  obtain ⟨D, A', R', d1, d2, d3, -, -, -, -, d8, -⟩ := hd
  have st : ∀ i, i < D → dp_J M 111 (i * 23 + 7) = (dp_I M 241 i).toInt64 := fun i hi => (d8 i hi).2.1.1
  have e241 : dp_I (dp_setI M 114 0 0) 241 = dp_I M 241 := by rw [gII, if_neg (by decide)]
  have inst : ∀ s : Int32, (∀ {d}, dp_den true xs xl (d + 4) 7 [.ref 108, .int s] M = iR (nI (ct (fun i => decide (dp_I M 241 i = s)) D)) M) ∧ (∀ {d}, dp_den true xs xl (d + 1) 587 [.ref 114, .int s] (dp_setI M 114 0 0) = iR (nI (ct (fun i => decide (dp_I M 241 i = s)) D)) (dp_setI M 114 0 0)) := fun s => ⟨fun {d} => dc_inst d2 d1 st, fun {d} => by rw [dm_inst (by rw [gII, if_pos rfl, uI_n (by decide)]; exact d3) d1, e241]⟩
  have cs : k = 11 ∨ k = 12 ∨ k = 13 ∨ k = 14 ∨ k = 15 ∨ k = 16 ∨ k = 17 ∨ k = 18 ∨ k = 19 ∨ k = 20 ∨ k = 21 ∨ k = 22 ∨ k = 23 ∨ k = 24 ∨ k = 25 ∨ k = 26 ∨ k = 27 ∨ k = 28 ∨ k = 29 ∨ k = 30 ∨ k = 31 ∨ k = 32 ∨ k = 33 ∨ k = 34 ∨ k = 35 ∨ k = 36 ∨ k = 37 ∨ k = 38 ∨ k = 39 ∨ k = 40 := by omega
  rcases cs with rfl | rfl | rfl | rfl | rfl | rfl | rfl | rfl | rfl | rfl | rfl | rfl | rfl | rfl | rfl | rfl | rfl | rfl | rfl | rfl | rfl | rfl | rfl | rfl | rfl | rfl | rfl | rfl | rfl | rfl
  · exact cw_11 p7
  · exact cw_12 p7
  · exact cw_13 p7
  · exact cw_14 p7
  · exact cw_15 (t2.trans t1.symm)
  · exact cw_16 (t5.trans t4.symm)
  · exact cw_17 (u2.trans u1.symm)
  · exact cw_18 (w2.trans w1.symm)
  · exact cw_19 (q2.trans q1.symm)
  · exact cw_20 (s2.trans s1.symm)
  · exact cw_21 (s4.trans s3.symm)
  · refine cw_22 s16 (fun {d} => ?_)
    rw [sm_liveO (by rw [gII, if_pos rfl, uI_n (by decide)]; exact s4) hR, gII, if_neg (by decide)]
  · exact cw_23 s5
  · exact cw_24 s9
  · exact cw_25 s9
  · exact cw_26 s9
  · exact cw_27 s9
  · exact cw_28 (l2.trans l1.symm)
  · exact cw_29 (l4.trans l3.symm)
  · exact cw_30 l5
  · exact cw_31 l6
  · exact cw_32 l7
  · exact cw_33 l8
  · exact cw_34 l9
  · exact cw_35 (d3.trans d2.symm)
  · exact cw_36 (inst 0).1 (inst 0).2
  · exact cw_37 (inst 1).1 (inst 1).2
  · exact cw_38 (inst 2).1 (inst 2).2
  · exact cw_39 (inst 3).1 (inst 3).2
  · exact cw_40 (inst 4).1 (inst 4).2
end CnC
