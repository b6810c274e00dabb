/-! THE TARIFF: apply -/
section TM
variable {xs : Nat → Int32} {xl d : Nat} {M : dp_M}
theorem gcI (M : dp_M) (s a t b n k : Nat) : dp_I (dp_cpI M s a t b n) k = if k = t then fN (dp_I M t) b n (fun j => dp_I M s (a + j)) else dp_I M k := by
  funext j
  unfold dp_cpI fN
  by_cases h : k = t
  · subst h; simp [dp_I]
  · simp [dp_I, h]
theorem gcJ (M : dp_M) (s a t b n : Nat) : dp_J (dp_cpI M s a t b n) = dp_J M := id rfl
theorem Off.cI {S T : List Nat} {M M' : dp_M} (t : Nat) (ht : (t ∈ S ∧ t < 246) ∧ t ≠ 114) (s a b n : Nat) (h : Off S T M M') : Off S T M (dp_cpI M' s a t b n) := by
  obtain ⟨a1, a2, a3, a4, a5⟩ := h
  refine ⟨fun k' q1 q2 q3 => ?_, fun i' hi => ?_, a3, fun k' q1 q2 => ?_, a5⟩
  · obtain ⟨x1, x2, x3⟩ := a1 k' q1 q2 q3
    exact ⟨by rw [gcI, if_neg (show ¬ k' = t from fun e => q2 (by rw [e]; exact ht.1.1)), x1], x2, x3⟩
  · obtain ⟨x1, x2⟩ := a2 i' hi
    exact ⟨by rw [gcI, if_neg (show ¬ 114 = t from fun e => ht.2 e.symm)]; exact x1, x2⟩
  · obtain ⟨x1, x2, x3, x4, x5⟩ := a4 k' q1 q2
    exact ⟨by rw [gcI, if_neg (by omega), x1], x2, x3, x4, x5⟩
theorem fit_c {M N : dp_M} (e : ∀ k ∈ core, dp_I N k = dp_I M k) (h : dp_I N 51 1 = dp_I M 51 1) (c : Int32) (l : Nat) (day on : Int32) (r : Nat) : fit N c l day on r = fit M c l day on r := by
  unfold fit
  exact decide_eq_decide.mpr (and_congr (isof_c e c l day on r) (pap_c e h r))
theorem kf_c {M N : dp_M} (e : ∀ k ∈ core, dp_I N k = dp_I M k) : kf N = kf M := by
  funext r; unfold kf; rw [e 159 (by decide)]
theorem sel_c {M N : dp_M} (e : ∀ k ∈ core, dp_I N k = dp_I M k) (h : dp_I N 51 1 = dp_I M 51 1) (c : Int32) (l : Nat) (day on : Int32) (R : Nat) : sel N c l day on R = sel M c l day on R := by
  funext r
  unfold sel
  simp only [fit_c e h, kf_c e, stg_c e]
/-- apply -/
theorem s_apply (h : RelT M) (hn : 246 ≤ dp_n M) (v1 v2 v3 v4 : Int32) : ∃ k b M1 M2, dp_den true xs xl (d + 6) 621 [.ref 0, .int v1, .int v2, .int v3, .int v4, .ref 245] M = iR k M1 ∧ dp_den true xs xl (d + 6) 463 [.ref 114, .int v1, .int v2, .int v3, .int v4] M1 = iR b M2 ∧
    dp_I M2 114 0 = k ∧ (k = 0 → dp_J M2 245 0 = b.toInt64) ∧ RelT M2 ∧ Off (245 :: RelT_S) (0 :: RelT_T) M M2 ∧ Cst 1 6 M M2 := by
  have h0 := h
  obtain ⟨R, K, hR, hK, a1, a2, a3, a4, a5, a6, a7, a8, a9, a10, a11, a12, a13⟩ := h
  by_cases g : wi v1 100000 999999 ∧ qin v2 16 ∧ qin v3 10001 ∧ qin v4 10001
  case neg =>
    refine ⟨1, 0, dp_new M 0 0 6, _, wL_apply_x0 ?_, ?_, rfl, (fun e => by cases e), h0.refused hn 1⟩
    · rw [D_X11_apply_0_den, D_X11_apply_0_eq]
      simp only [tc_full, tc_land, tc_day, rb_bi, ibz, q_nk hn]
      repeat' split
      all_goals first | rfl | (exfalso; exact g ⟨by assumption, by assumption, by assumption, by assumption⟩)
    · rw [D_X12_apply_0_den, D_X12_apply_0_eq]
      simp only [tm_six, tm_land, tm_day, rb_bi, ibz, q_ref]
      repeat' split
      all_goals first | rfl | (exfalso; exact g ⟨by assumption, by assumption, by assumption, by assumption⟩)
  obtain ⟨g1, g2, g3, g4⟩ := g
  obtain ⟨l, hl, rfl⟩ := qin_of g2 (by omega)
  obtain ⟨M3, f1, f2, f3, f4, f5, f6, f7, f8, f9, f10⟩ := tc_find (xs := xs) (xl := xl) (d := d) (M := M) (c := v1) (day := v3) (on := v4) hR hl a1 a7 a13
  have hcn := cn_le (sel := sel M v1 l v3 v4 R) (kf := kf M) (R := R) (k := 8) (i := 1) sel_0
  generalize hn0 : cn (sel M v1 l v3 v4 R) (kf M) R 8 1 = n at f1 f9 hcn
  have hcl : dp_den true xs xl (d + 5) 305 [.ref 0, .int v1, .int (nI l), .int v3, .int v4] M = iR (nI n) (dp_setI (dp_cpI M3 58 0 57 0 n) 51 2 (nI n)) := by
    rw [D_X11_apply_0_den, D_X11_apply_0_eq]
    simp only [tc_full, tc_land, tc_day, rb_bi, ibz, if_pos g1, if_pos g2, if_pos g3, if_pos g4, f1]
    rw [D_X9_keepList_0_den, D_X9_keepList_0_eq, f9]
    have z0 : (0 : Int32).toNatClampNeg = 0 := rfl
    rw [if_neg]
    · simp only [nI_cl (show n < 2147483648 by omega), z0, dp_w, gII, if_true, uI_s, gcI, Nat.reduceEqDiff, if_false, f9, rb_bi]
    · rw [nI_cl (by omega), z0]
      rintro (q | q | q | q | q | q)
      · exact nI_pos (by omega) q
      · exact absurd q (by decide)
      · exact absurd q (by decide)
      · omega
      · omega
      · exact absurd q (by decide)
  -- as the model finds it
  obtain ⟨N, hN⟩ : ∃ N, N = dp_setI (dp_setJ (dp_setI (dp_cpI M3 58 0 57 0 n) 51 2 (nI n)) 245 0 (nI n).toInt64) 114 0 0 := ⟨_, rfl⟩
  have oN : Off [51, 57, 58, 66, 67, 245] [0] M N := by
    rw [hN]
    exact ((((f2.mono (by decide) (by decide) : Off [51, 57, 58, 66, 67, 245] [0] M M3).cI 57 (by decide) _ _ _ _).I 51 (by decide) _ _).J 245 (by decide) _ _).F 0 (by decide) _
  have e := core_c oN (by decide)
  have n51 : dp_I N 51 0 = nI R ∧ dp_I N 51 1 = dp_I M 51 1 ∧ dp_I N 51 2 = nI n ∧ dp_I N 57 = fN (dp_I M3 57) 0 n (fun j => dp_I M3 58 (0 + j)) ∧ dp_J N 245 0 = (nI n).toInt64 ∧ dp_I N 114 0 = 0 := by
    rw [hN]
    simp only [gII, gIJ, gcI, gJI, gJJ, Nat.reduceEqDiff, if_false, if_true, uI_s, uI_n (show (0 : Nat) ≠ 2 by decide), uI_n (show (1 : Nat) ≠ 2 by decide)]
    exact ⟨by rw [f6]; exact a1, f7, trivial, trivial, trivial, trivial⟩
  have nT : ∀ i, i ≠ 0 → dp_I N 114 i = dp_I M 114 i := fun i hi => (oN.2.1 i (by simpa using hi)).1
  obtain ⟨M4, p1, p2, p3, p4, p5, p6, p7⟩ := tm_finds (xs := xs) (xl := xl) (d := d) (M := N) (c := v1) (day := v3) (on := v4) hR hl g1 (by rw [nT 55 (by decide)]; exact a2) (by rw [nT 68 (by decide), n51.2.1]; exact a3) (by rw [e 162 (by decide), e 55 (by decide)]; exact a8) (by rw [e 163 (by decide), e 56 (by decide)]; exact a9) (fun r h1 h2 => (a13 r h1 h2).off oN (by decide) (by decide))
  rw [sel_c e n51.2.1, kf_c e] at p6 p7
  rw [hn0] at p6
  -- the list is kept
  obtain ⟨M5, ⟨o5, q1, q2, q3, q4, q5, q6⟩, t5⟩ := lpt (F := fun i A => D_X12_apply_60 xs xl (d + 5) v1 (nI l) v3 v4 (nI i) A) (a := 0) (N := n)
    (Inv := fun i A => Off [168] [] (dp_setI M4 114 72 (nI n)) A ∧ dp_n A = dp_n M4 ∧ dp_z A = dp_z M4 ∧ dp_J A = dp_J M4 ∧ dp_I A 114 = dp_I (dp_setI M4 114 72 (nI n)) 114 ∧ dp_I A 167 = dp_I M4 167 ∧ ∀ j, j < i → dp_I A 168 j = dp_I M4 167 j)
    (Nat.zero_le _) (by
      rintro i A - hi ⟨o, i1, i2, i3, i4, i5, i6⟩
      refine ⟨dp_setI A 168 i (dp_I M4 167 i), ⟨o.I 168 (by decide) _ _, i1, i2, i3, by simp only [gII, Nat.reduceEqDiff, if_false]; simp only [gII, if_true] at i4; exact i4, by simp only [gII, Nat.reduceEqDiff, if_false]; exact i5, fun j hj => ?_⟩, fun r hr => ?_⟩
      · simp only [gII, if_true]
        by_cases z : j = i
        · rw [z, uI_s]
        · rw [uI_n z]; exact i6 j (by omega)
      · (try dsimp only at hr); (try dsimp only)
        have e70 : dp_I A 114 70 = nI n := by rw [i4, gII, if_pos rfl, uI_n (by decide)]; exact p6
        rw [D_X12_apply_60_eq, e70, if_neg (nI_nge hi (by omega))]
        simp only [nI_cl (show i < 2147483648 by omega), nI_o (show i < 300 by omega) (by omega), if_false, dp_w, nI_1, i5]
        exact hr) (dp_setI M4 114 72 (nI n)) ⟨Off.rr _ _ _, rfl, rfl, rfl, rfl, by simp only [gII, Nat.reduceEqDiff, if_false], fun j hj => by omega⟩
  have e70 : dp_I M5 114 70 = nI n := by rw [q4, gII, if_pos rfl, uI_n (by decide)]; exact p6
  have e72 : dp_I M5 114 72 = nI n := by rw [q4, gII, if_pos rfl, uI_s]
  have hmo : dp_den true xs xl (d + 6) 463 [.ref 114, .int v1, .int (nI l), .int v3, .int v4] (dp_setJ (dp_setI (dp_cpI M3 58 0 57 0 n) 51 2 (nI n)) 245 0 (nI n).toInt64) = iR (nI n) M5 := by
    rw [D_X12_apply_0_den, D_X12_apply_0_eq]
    simp only [tm_six, tm_land, tm_day, rb_bi, ibz, if_pos g1, if_pos g2, if_pos g3, if_pos g4, dp_w]
    rw [← hN, p1, rb_bv, p6]
    apply t5
    (try dsimp only)
    rw [D_X12_apply_60_eq, e70, if_pos (nI_lle (Nat.le_refl _) (by omega)), e72]
  have oM4 : Off [51, 57, 58, 66, 67, 245, 167, 169, 168] [0, 70, 72] M M5 := ((oN.mono (by decide) (by decide) : Off [51, 57, 58, 66, 67, 245, 167, 169, 168] [0, 70, 72] M N).tr (p2.mono (by decide) (by decide))).tr ((((Off.rr [51, 57, 58, 66, 67, 245, 167, 169, 168] [0, 70, 72] M4).F 72 (by decide) (nI n))).tr (o5.mono (by decide) (by decide)))
  have eM5 : ∀ k, k < 246 → k ∉ [167, 168, 169] → k ≠ 114 → dp_I M5 k = dp_I N k := fun k k1 k2 k3 => by
    have h5 := (o5.1 k k1 (by simp only [List.mem_cons, List.not_mem_nil, or_false] at k2 ⊢; omega) k3).1
    have h4 := (p2.1 k k1 (by simp only [List.mem_cons, List.not_mem_nil, or_false] at k2 ⊢; omega) k3).1
    rw [h5, gII, if_neg k3, h4]
  have eT : ∀ i, i ≠ 70 → i ≠ 72 → dp_I M5 114 i = dp_I N 114 i := fun i h1 h2 => by
    rw [q4, gII, if_pos rfl, uI_n h2]
    exact (p2.2.1 i (by simpa using h1)).1
  have cM := core_c oM4 (by decide)
  refine ⟨0, nI n, _, M5, wL_apply_ok hcl, hmo, ?_, fun _ => ?_, ?_, oM4.mono (by decide) (by decide), ?_⟩
  · rw [eT 0 (by decide) (by decide)]; exact n51.2.2.2.2.2
  · rw [q3, p5]; exact n51.2.2.2.2.1
  · refine ⟨R, n, hR, by omega, ?_, ?_, ?_, ?_, ?_, fun i hi => ?_, fun k hk => ?_, ?_, ?_, ?_, ?_, ?_, fun r h1 h2 => (a13 r h1 h2).off oM4 (by decide) (by decide)⟩
    · rw [eM5 51 (by decide) (by decide) (by decide)]; exact n51.1
    · rw [eT 55 (by decide) (by decide), nT 55 (by decide)]; exact a2
    · rw [eT 68 (by decide) (by decide), nT 68 (by decide), eM5 51 (by decide) (by decide) (by decide), n51.2.1]; exact a3
    · rw [eM5 51 (by decide) (by decide) (by decide)]; exact n51.2.2.1
    · exact e72
    · rw [eM5 57 (by decide) (by decide) (by decide), n51.2.2.2.1, q6 i hi]
      have := fN_in (f := dp_I M3 57) (a := 0) (n := n) (g := fun j => dp_I M3 58 (0 + j)) hi
      rw [Nat.zero_add] at this
      rw [this]
      (try dsimp only)
      (try rw [Nat.zero_add])
      exact FInv_eq f10 p7 (by rw [hn0]; exact hi)
    · rw [cM 65 (by decide), cM 155 (by decide)]; exact a7 k hk
    · rw [cM 162 (by decide), cM 55 (by decide)]; exact a8
    · rw [cM 163 (by decide), cM 56 (by decide)]; exact a9
    · rw [cM 55 (by decide), cM 56 (by decide)]; exact a10
    · rw [cM 55 (by decide), cM 56 (by decide)]; exact a11
    · rw [eT 67 (by decide) (by decide), nT 67 (by decide)]; exact a12
  · have hnN : dp_n N = dp_n M ∧ dp_z N = dp_z M := by rw [hN]; exact ⟨f3, f4⟩
    exact ⟨by rw [q1, p3, hnN.1]; omega, by rw [q2, p4, hnN.2]; omega⟩
end TM
