/-! THE TARIFF: find, the class -/
/-- what the class keeps of the strongest -/
def SInv (M : dp_M) (c : Int32) (l : Nat) (day on : Int32) (i : Nat) (f : Nat → Int32) : Prop := (∀ k, k < 4 → (∀ x, 1 ≤ x → x < i → fit M c l day on x = true → kf M x = k → ¬ f k < stg M x) ∧ (f k = 0 ∨ ∃ x, 1 ≤ x ∧ x < i ∧ fit M c l day on x = true ∧ kf M x = k ∧ f k = stg M x)) ∧ ∀ k, 4 ≤ k → k < 8 → f k = 0
theorem SInv_skip {M : dp_M} {c : Int32} {l : Nat} {day on : Int32} {i : Nat} {f : Nat → Int32} (h : SInv M c l day on i f) (hs : fit M c l day on i = false ∨ 4 ≤ kf M i) : SInv M c l day on (i + 1) f := by
  refine ⟨fun k hk => ⟨fun x x1 x2 x3 x4 => ?_, ?_⟩, h.2⟩
  · by_cases e : x = i
    · subst e
      rcases hs with q | q
      · rw [q] at x3; cases x3
      · omega
    · exact (h.1 k hk).1 x x1 (by omega) x3 x4
  · rcases (h.1 k hk).2 with q | ⟨x, x1, x2, x3, x4, x5⟩
    · exact Or.inl q
    · exact Or.inr ⟨x, x1, by omega, x3, x4, x5⟩
theorem SInv_put {M : dp_M} {c : Int32} {l : Nat} {day on : Int32} {i : Nat} {f : Nat → Int32} (h : SInv M c l day on i f) (hi : 1 ≤ i) (h1 : fit M c l day on i = true) (h2 : kf M i < 4) : SInv M c l day on (i + 1) (uI f (kf M i) (if f (kf M i) < stg M i then stg M i else f (kf M i))) := by
  refine ⟨fun k hk => ?_, fun k k1 k2 => by rw [uI_n (by omega)]; exact h.2 k k1 k2⟩
  by_cases e : k = kf M i
  · subst e
    rw [uI_s]
    by_cases q : f (kf M i) < stg M i
    · rw [if_pos q]
      refine ⟨fun x x1 x2 x3 x4 => ?_, Or.inr ⟨i, hi, by omega, h1, rfl, rfl⟩⟩
      by_cases z : x = i
      · rw [z]; intro w; rw [Int32.lt_iff_toInt_lt] at w; omega
      · intro w
        exact (h.1 _ hk).1 x x1 (by omega) x3 x4 (Int32.lt_trans q w)
    · rw [if_neg q]
      refine ⟨fun x x1 x2 x3 x4 => ?_, ?_⟩
      · by_cases z : x = i
        · rw [z]; exact q
        · exact (h.1 _ hk).1 x x1 (by omega) x3 x4
      · rcases (h.1 _ hk).2 with w | ⟨x, x1, x2, x3, x4, x5⟩
        · exact Or.inl w
        · exact Or.inr ⟨x, x1, by omega, x3, x4, x5⟩
  · rw [uI_n e]
    refine ⟨fun x x1 x2 x3 x4 => ?_, ?_⟩
    · by_cases z : x = i
      · subst z; exact absurd x4.symm e
      · exact (h.1 k hk).1 x x1 (by omega) x3 x4
    · rcases (h.1 k hk).2 with w | ⟨x, x1, x2, x3, x4, x5⟩
      · exact Or.inl w
      · exact Or.inr ⟨x, x1, by omega, x3, x4, x5⟩
/-- and what it means -/
theorem SInv_sel {M : dp_M} {c : Int32} {l : Nat} {day on : Int32} {R r : Nat} {f : Nat → Int32} (h : SInv M c l day on (R + 1) f) (hr : 1 ≤ r) (hT : TRw M r) : sel M c l day on R r = true ↔ (fit M c l day on r = true ∧ ¬ stg M r < f (kf M r)) := by
  have s0 := TRw_s0 hT
  have k8 := (TRw_kf hT).2.2
  unfold sel
  simp only [Bool.and_eq_true, Bool.or_eq_true, decide_eq_true_eq]
  constructor
  · rintro ⟨⟨-, h1⟩, h2⟩
    refine ⟨h1, fun q => ?_⟩
    rcases h2 with h2 | h2
    · rw [h.2 _ h2 k8] at q; exact s0 q
    · by_cases c4 : kf M r < 4
      · rcases (h.1 _ c4).2 with w | ⟨x, x1, x2, x3, x4, x5⟩
        · rw [w] at q; exact s0 q
        · rw [x5] at q; exact h2 x x2 x1 x3 x4 q
      · rw [h.2 _ (by omega) k8] at q; exact s0 q
  · rintro ⟨h1, h2⟩
    refine ⟨⟨hr, h1⟩, ?_⟩
    by_cases c4 : kf M r < 4
    · right
      intro x x1 x2 x3 x4 w
      have := (h.1 _ c4).1 x x2 x1 x3 x4
      rw [Int32.lt_iff_toInt_lt] at h2 w this
      omega
    · left; omega
section TK
variable {xs : Nat → Int32} {xl d : Nat} {M : dp_M}
theorem tc_find {R l : Nat} {c day on : Int32} (hR : R ≤ 300) (hl : l < 16) (a1 : dp_I M 51 0 = nI R) (a7 : ∀ g, g < 8 → dp_I M 65 (16 + g) = dp_I M 155 g) (a13 : ∀ r, 1 ≤ r → r ≤ R → TRw M r) :
    ∃ M', dp_den true xs xl (d + 4) 223 [.ref 51, .int c, .int (nI l), .int day, .int on] M = iR (nI (cn (sel M c l day on R) (kf M) R 8 1)) M' ∧ Off [51, 58, 66, 67] [] M M' ∧ dp_n M' = dp_n M ∧ dp_z M' = dp_z M ∧ dp_J M' = dp_J M ∧ dp_I M' 51 0 = dp_I M 51 0 ∧ dp_I M' 51 1 = dp_I M 51 1 ∧ dp_I M' 51 2 = dp_I M 51 2 ∧ dp_I M' 51 3 = nI (cn (sel M c l day on R) (kf M) R 8 1) ∧ FInv (sel M c l day on R) (kf M) R 8 1 (dp_I M' 58) := by
  obtain ⟨M1, f1, f2, f3, f4, f5, f6⟩ := q_fillI (xs := xs) (xl := xl) (d := d + 2) (M := M) (p := 66) (N := 8) (x := 0) (by omega) (by omega) rfl rfl (by omega)
  have i66 : ∀ k, k < 8 → dp_I M1 66 k = 0 := fun k hk => by
    rw [f6 66, if_pos rfl]
    have := fN_in (f := dp_I M 66) (a := 0) (n := 8) (g := fun _ => (0 : Int32)) hk
    rwa [Nat.zero_add] at this
  -- first: which fit
  obtain ⟨M2, ⟨o2, g1, g2, g3, g4, g5, g6⟩, t2⟩ := lpt (F := fun i N => D_X9_find_11 xs xl (d + 3) c (nI l) day on (nI i) N) (a := 1) (N := R + 1)
    (Inv := fun i N => Off [66, 67] [] M N ∧ dp_n N = dp_n M ∧ dp_z N = dp_z M ∧ dp_J N = dp_J M ∧ dp_I N 51 = dp_I M 51 ∧ (∀ r, 1 ≤ r → r < i → dp_I N 67 r = bI (fit M c l day on r = true)) ∧ SInv M c l day on i (dp_I N 66))
    (by omega) (by
      rintro i N hi1 hi ⟨o, i1, i2, i3, i4, i5, i6⟩
      have e := core_c o (by decide)
      have hT : TRw N i := (a13 i hi1 (by omega)).off o (by decide) (by decide)
      have e53 : dp_I N 53 i = nI (kf M i) := by rw [e 53 (by decide)]; exact (TRw_kf (a13 i hi1 (by omega))).2.1
      have k8 := (TRw_kf (a13 i hi1 (by omega))).2.2
      have go : ∀ r s', dp_I N 51 0 = nI R → (∃ N', (N' = if fit M c l day on i = true ∧ kf M i < 4 then dp_setI (dp_setI N 67 i (bI (fit M c l day on i = true))) 66 (kf M i) (if dp_I N 66 (kf M i) < stg M i then stg M i else dp_I N 66 (kf M i)) else dp_setI N 67 i (bI (fit M c l day on i = true))) ∧ N' = s' ∧ D_X9_find_11 xs xl (d + 3) c (nI l) day on (nI (i + 1)) s' = some r) → D_X9_find_54 xs xl (d + 3) c (nI l) day on (nI i) (bI (fit M c l day on i = true)) (nI i) N = some r := by
        rintro r s' hrow ⟨N', hN', rfl, hr⟩
        rw [D_X9_find_54_eq]
        simp only [nI_cl (show i < 2147483648 by omega), nI_o (show i < 301 by omega) (by omega), if_false, dp_w, nI_1, gII, Nat.reduceEqDiff, if_true, uI_s]
        by_cases cf : fit M c l day on i = true
        · have eb : bI (fit M c l day on i = true) = 1 := bI_t cf
          have eb1 : (bI (fit M c l day on i = true)) &&& 1 = 1 := by rw [eb]; rfl
          rw [eb1, if_neg (show ¬ (1 : Int32) = 0 by decide), e53]
          by_cases c4 : kf M i < 4
          · rw [if_pos ⟨cf, c4⟩, eb] at hN'
            rw [if_neg (show ¬ (4 : Int32) ≤ nI (kf M i) from nI_ge (a := kf M i) (b := 4) (by omega) (by omega))]
            have hst : dp_den true xs xl (d + 3) 222 [.ref 51, .int (nI i)] (dp_setI N 67 i 1) = iR (stg M i) (dp_setI N 67 i 1) := by
              rw [tc_stg (by omega) (hT.off ((Off.rr [67] [] N).I 67 (by decide) _ _) (by decide) (by decide)), stg_c (M := M)]
              exact core_c (o.I 67 (by decide) _ _) (by decide)
            simp only [hst, rb_bi, nI_cl (show kf M i < 2147483648 by omega), nI_o (show kf M i < 8 by omega) (by omega), if_false]
            rw [hN'] at hr
            exact hr
          · rw [if_neg (fun q => c4 q.2), eb] at hN'
            rw [if_pos (show (4 : Int32) ≤ nI (kf M i) from nI_le (a := 4) (b := kf M i) (by omega) (by omega))]
            rw [hN'] at hr
            exact hr
        · have eb : bI (fit M c l day on i = true) = 0 := bI_f cf
          have eb1 : (bI (fit M c l day on i = true)) &&& 1 = 0 := by rw [eb]; rfl
          rw [eb1, if_pos rfl]
          rw [if_neg (fun q => cf q.1), eb] at hN'
          rw [hN'] at hr
          exact hr
      have hrow : dp_I N 51 0 = nI R := by rw [i4]; exact a1
      refine ⟨if fit M c l day on i = true ∧ kf M i < 4 then dp_setI (dp_setI N 67 i (bI (fit M c l day on i = true))) 66 (kf M i) (if dp_I N 66 (kf M i) < stg M i then stg M i else dp_I N 66 (kf M i)) else dp_setI N 67 i (bI (fit M c l day on i = true)), ?_, fun r hr => ?_⟩
      · have fits' : ∀ (f : Nat → Int32), (∀ r, f r = uI (dp_I N 67) i (bI (fit M c l day on i = true)) r) → ∀ r, 1 ≤ r → r < i + 1 → f r = bI (fit M c l day on r = true) := fun f hf r r1 r2 => by
          rw [hf]
          by_cases z : r = i
          · rw [z, uI_s]
          · rw [uI_n z]; exact i5 r r1 (by omega)
        by_cases q : fit M c l day on i = true ∧ kf M i < 4
        · rw [if_pos q]
          refine ⟨(o.I 67 (by decide) _ _).I 66 (by decide) _ _, i1, i2, i3, by simp only [gII, Nat.reduceEqDiff, if_false]; exact i4, fits' _ (fun r => by simp only [gII, Nat.reduceEqDiff, if_false, if_true]), ?_⟩
          simp only [gII, Nat.reduceEqDiff, if_false, if_true]
          exact SInv_put i6 hi1 q.1 q.2
        · rw [if_neg q]
          refine ⟨o.I 67 (by decide) _ _, i1, i2, i3, by simp only [gII, Nat.reduceEqDiff, if_false]; exact i4, fits' _ (fun r => by simp only [gII, if_true]), ?_⟩
          simp only [gII, Nat.reduceEqDiff, if_false]
          apply SInv_skip i6
          by_cases z : fit M c l day on i = true
          · exact Or.inr (by apply Classical.byContradiction; intro w; exact q ⟨z, by omega⟩)
          · left; simpa using z
      · (try dsimp only at hr); (try dsimp only)
        have gg := go r _ hrow ⟨_, rfl, rfl, hr⟩
        rw [D_X9_find_11_eq, hrow, if_neg (nI_nlt (by omega) (by omega)), tc_isOf hl (by omega) hT (fun g hg => by rw [e 65 (by decide), e 155 (by decide)]; exact a7 g hg), rb_bi, ibz]
        have ei := isof_c e c l day on i
        have ep := pap_c e (by rw [i4]) i
        by_cases z1 : isof M c l day on i
        · rw [if_pos (ei.mpr z1), tc_pap1 (by omega), rb_bi, ibz]
          by_cases z2 : pap M i
          · rw [if_pos (ep.mpr z2)]
            have : fit M c l day on i = true := by unfold fit; exact decide_eq_true ⟨z1, z2⟩
            rw [bI_t this] at gg; exact gg
          · rw [if_neg (fun q => z2 (ep.mp q))]
            have : ¬ fit M c l day on i = true := by unfold fit; rw [decide_eq_true_eq]; exact fun q => z2 q.2
            rw [bI_f this] at gg; exact gg
        · rw [if_neg (fun q => z1 (ei.mp q))]
          have : ¬ fit M c l day on i = true := by unfold fit; rw [decide_eq_true_eq]; exact fun q => z1 q.1
          rw [bI_f this] at gg; exact gg) M1 ⟨f2.mono (by decide) (by decide), f3, f4, f5, by rw [f6 51, if_neg (by decide)], fun r h1 h2 => by omega, ⟨fun k hk => ⟨fun x x1 x2 => by omega, Or.inl (i66 k (by omega))⟩, fun k _ hk => i66 k hk⟩⟩
  -- then: those that are found
  obtain ⟨M3, ⟨o3, q1, q2, q3, q4, q5, q6, q7, q8, q9, q10⟩, t3⟩ := lpt (F := fun k N => D_X9_find_123 xs xl (d + 3) c (nI l) day on (nI k) N) (a := 0) (N := 8)
    (Inv := fun k N => Off [51, 58, 66, 67] [] M N ∧ dp_n N = dp_n M ∧ dp_z N = dp_z M ∧ dp_J N = dp_J M ∧ dp_I N 51 0 = dp_I M 51 0 ∧ dp_I N 51 1 = dp_I M 51 1 ∧ dp_I N 51 2 = dp_I M 51 2 ∧ dp_I N 51 3 = nI (cn (sel M c l day on R) (kf M) R k 1) ∧ FInv (sel M c l day on R) (kf M) R k 1 (dp_I N 58) ∧ dp_I N 67 = dp_I M2 67 ∧ dp_I N 66 = dp_I M2 66)
    (by omega) (by
      rintro k N - hk ⟨o, i1, i2, i3, i4, i5, i6, i7, i8, i9, i10⟩
      obtain ⟨N', ⟨o', j1, j2, j3, j4, j5, j6, j7, j8, j9, j10⟩, t'⟩ := lpt (F := fun i N => D_X9_find_133 xs xl (d + 3) c (nI l) day on (nI k) (nI i) N) (a := 1) (N := R + 1)
        (Inv := fun i N => Off [51, 58, 66, 67] [] M N ∧ dp_n N = dp_n M ∧ dp_z N = dp_z M ∧ dp_J N = dp_J M ∧ dp_I N 51 0 = dp_I M 51 0 ∧ dp_I N 51 1 = dp_I M 51 1 ∧ dp_I N 51 2 = dp_I M 51 2 ∧ dp_I N 51 3 = nI (cn (sel M c l day on R) (kf M) R k i) ∧ FInv (sel M c l day on R) (kf M) R k i (dp_I N 58) ∧ dp_I N 67 = dp_I M2 67 ∧ dp_I N 66 = dp_I M2 66)
        (by omega) (by
          rintro i N hi1 hi ⟨o, i1, i2, i3, i4, i5, i6, i7, i8, i9, i10⟩
          have e := core_c o (by decide)
          have hTM := a13 i hi1 (by omega)
          have hT : TRw N i := hTM.off o (by decide) (by decide)
          have e53 : dp_I N 53 i = nI (kf M i) := by rw [e 53 (by decide)]; exact (TRw_kf hTM).2.1
          have k8 := (TRw_kf hTM).2.2
          have hsel := SInv_sel g6 hi1 hTM
          have hcn := cn_le (sel := sel M c l day on R) (kf := kf M) (R := R) (k := k) (i := i) sel_0
          have skip : ∀ r, ¬ (sel M c l day on R i = true ∧ kf M i = k) → D_X9_find_133 xs xl (d + 3) c (nI l) day on (nI k) (nI (i + 1)) N = some r → D_X9_find_133 xs xl (d + 3) c (nI l) day on (nI k) (nI i) N = some r := fun r hns hr => by
            rw [D_X9_find_133_eq, i4, a1, if_neg (nI_nlt (by omega) (by omega))]
            simp only [nI_cl (show i < 2147483648 by omega), nI_o (show i < 301 by omega) (by omega), if_false, e53, nI_eq (show kf M i < 2147483648 by omega) (show k < 2147483648 by omega), dp_w, nI_1, i9, g5 i hi1 hi]
            by_cases z1 : kf M i = k
            case neg => rw [if_neg z1]; exact hr
            rw [if_pos z1]
            by_cases z2 : fit M c l day on i = true
            case neg => rw [bI_f z2, if_pos rfl]; exact hr
            rw [bI_t z2, if_neg (by decide), tc_stg (by omega) hT, stg_c e, rb_bi]
            simp only [nI_cl (show k < 2147483648 by omega), nI_o (show k < 8 by omega) (by omega), if_false, i10]
            rw [if_pos]
            · exact hr
            · apply Classical.byContradiction
              intro w
              exact hns ⟨hsel.mpr ⟨z2, by rw [z1]; exact w⟩, z1⟩
          by_cases cs : sel M c l day on R i = true ∧ kf M i = k
          · obtain ⟨cs1, cs2⟩ := cs
            obtain ⟨z2, z3⟩ := hsel.mp cs1
            have hadd := cn_add (sel := sel M c l day on R) (kf := kf M) (R := R) (k := k) (i := i) (by omega) cs1 cs2
            have hle := cn_le (sel := sel M c l day on R) (kf := kf M) (R := R) (k := k) (i := i + 1) sel_0
            refine ⟨dp_setI (dp_setI N 58 (cn (sel M c l day on R) (kf M) R k i) (nI i)) 51 3 (nI (cn (sel M c l day on R) (kf M) R k i + 1)), ⟨(o.I 58 (by decide) _ _).I 51 (by decide) _ _, i1, i2, i3, ?_, ?_, ?_, ?_, ?_, ?_, ?_⟩, fun r hr => ?_⟩
            · simp only [gII, Nat.reduceEqDiff, if_false, if_true, uI_n (show (0 : Nat) ≠ 3 by decide)]; exact i4
            · simp only [gII, Nat.reduceEqDiff, if_false, if_true, uI_n (show (1 : Nat) ≠ 3 by decide)]; exact i5
            · simp only [gII, Nat.reduceEqDiff, if_false, if_true, uI_n (show (2 : Nat) ≠ 3 by decide)]; exact i6
            · simp only [gII, if_true, uI_s]; rw [hadd]
            · simp only [gII, Nat.reduceEqDiff, if_false, if_true]
              exact FInv_add i8 hi1 (by omega) cs1 cs2
            · simp only [gII, Nat.reduceEqDiff, if_false]; exact i9
            · simp only [gII, Nat.reduceEqDiff, if_false]; exact i10
            · (try dsimp only at hr); (try dsimp only)
              rw [D_X9_find_133_eq, i4, a1, if_neg (nI_nlt (by omega) (by omega))]
              simp only [nI_cl (show i < 2147483648 by omega), nI_o (show i < 301 by omega) (by omega), if_false, e53, nI_eq (show kf M i < 2147483648 by omega) (show k < 2147483648 by omega), dp_w, nI_1, i9, g5 i hi1 hi]
              rw [if_pos cs2, bI_t z2, if_neg (by decide), tc_stg (by omega) hT, stg_c e, rb_bi]
              rw [cs2] at z3
              simp only [nI_cl (show k < 2147483648 by omega), nI_o (show k < 8 by omega) (by omega), if_false, i10, if_neg z3, i7, nI_cl (show cn (sel M c l day on R) (kf M) R k i < 2147483648 by omega), nI_o (show cn (sel M c l day on R) (kf M) R k i < 300 by omega) (by omega), gII, Nat.reduceEqDiff, nI_1]
              exact hr
          · refine ⟨N, ⟨o, i1, i2, i3, i4, i5, i6, ?_, ?_, i9, i10⟩, fun r hr => skip r cs hr⟩
            · rw [cn_skip cs]; exact i7
            · unfold FInv; rw [cn_skip cs]; exact i8) N ⟨o, i1, i2, i3, i4, i5, i6, i7, i8, i9, i10⟩
      have hnx := cn_next (sel := sel M c l day on R) (kf := kf M) (R := R) (k := k) sel_0
      refine ⟨N', ⟨o', j1, j2, j3, j4, j5, j6, by rw [← hnx]; exact j7, by unfold FInv; rw [← hnx]; exact j8, j9, j10⟩, fun r hr => ?_⟩
      (try dsimp only at hr); (try dsimp only)
      rw [D_X9_find_123_eq, if_neg (show ¬ (8 : Int32) ≤ nI (k) from nI_ge (a := k) (b := 8) (by omega) (by omega))]
      simp only [dp_w]
      apply t'
      (try dsimp only)
      rw [D_X9_find_133_eq, j4, a1, if_pos (nI_lt (by omega) (by omega))]
      simp only [dp_w, nI_1]
      apply D_X9_find_123_to_123_a
      exact hr) (dp_setI M2 51 3 0) ⟨(o2.mono (by decide) (by decide) : Off [51, 58, 66, 67] [] M M2).I 51 (by decide) _ _, g1, g2, g3, by simp only [gII, if_true, uI_n (show (0 : Nat) ≠ 3 by decide), g4], by simp only [gII, if_true, uI_n (show (1 : Nat) ≠ 3 by decide), g4], by simp only [gII, if_true, uI_n (show (2 : Nat) ≠ 3 by decide), g4], by simp only [gII, if_true, uI_s]; rw [cn_0 sel_0]; rfl, by intro j hj; rw [cn_0 sel_0] at hj; omega, by simp only [gII, Nat.reduceEqDiff, if_false], by simp only [gII, Nat.reduceEqDiff, if_false]⟩
  refine ⟨M3, ?_, o3, q1, q2, q3, q4, q5, q6, q7, q8⟩
  rw [D_X9_find_0_den, D_X9_find_0_eq, f1, rb_bv]
  simp only [dp_w]
  apply t2
  (try dsimp only)
  rw [D_X9_find_11_eq, g4, a1, if_pos (nI_lt (by omega) (by omega))]
  simp only [dp_w]
  apply t3
  (try dsimp only)
  rw [D_X9_find_123_eq, if_pos (by decide), q7]
end TK
