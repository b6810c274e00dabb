/-! THE TARIFF: finds, the model; apply -/
section TL
variable {xs : Nat → Int32} {xl d : Nat} {M : dp_M}
theorem tm_finds {R l : Nat} {c day on : Int32} (hR : R ≤ 300) (hl : l < 16) (hc : wi c 100000 999999) (a2 : dp_I M 114 55 = nI R) (a3 : dp_I M 114 68 = dp_I M 51 1) (a8 : dp_I M 162 = dp_I M 55) (a9 : dp_I M 163 = dp_I M 56) (a13 : ∀ r, 1 ≤ r → r ≤ R → TRw M r) :
    ∃ M', dp_den true xs xl (d + 5) 461 [.ref 114, .int c, .int (nI l), .int day, .int on] M = vR M' ∧ Off [167, 169] [70] M M' ∧ dp_n M' = dp_n M ∧ dp_z M' = dp_z M ∧ dp_J M' = dp_J M ∧ dp_I M' 114 70 = nI (cn (sel M c l day on R) (kf M) R 8 1) ∧ FInv (sel M c l day on R) (kf M) R 8 1 (dp_I M' 167) := by
  -- first: which fit
  obtain ⟨M2, ⟨o2, g1, g2, g3, g5⟩, t2⟩ := lpt (F := fun i N => D_X12_finds_3 xs xl (d + 4) c (nI l) day on (nI i) N) (a := 1) (N := R + 1)
    (Inv := fun i N => Off [169] [] M N ∧ dp_n N = dp_n M ∧ dp_z N = dp_z M ∧ dp_J N = dp_J M ∧ ∀ r, 1 ≤ r → r < i → dp_I N 169 r = bI (fit M c l day on r = true))
    (by omega) (by
      rintro i N hi1 hi ⟨o, i1, i2, i3, i5⟩
      have e := core_c o (by decide)
      have hT : TRw N i := (a13 i hi1 (by omega)).off o (by decide) (by decide)
      have hrow : dp_I N 114 55 = nI R := by rw [(o.2.1 55 (by decide)).1]; exact a2
      have hth : dp_I N 114 68 = dp_I M 51 1 := by rw [(o.2.1 68 (by decide)).1]; exact a3
      have hN51 : dp_I N 51 = dp_I M 51 := (o.1 51 (by decide) (by decide) (by decide)).1
      refine ⟨dp_setI N 169 i (bI (fit M c l day on i = true)), ⟨o.I 169 (by decide) _ _, i1, i2, i3, fun r r1 r2 => ?_⟩, fun r hr => ?_⟩
      · simp only [gII, if_true]
        by_cases z : r = i
        · rw [z, uI_s]
        · rw [uI_n z]; exact i5 r r1 (by omega)
      · (try dsimp only at hr); (try dsimp only)
        rw [D_X12_finds_3_eq, hrow, if_neg (nI_nlt (by omega) (by omega)), tm_isOf hl (by omega) hc hT (by rw [e 162 (by decide), e 55 (by decide)]; exact a8), rb_bi, ibz]
        simp only [nI_cl (show i < 2147483648 by omega), nI_o (show i < 301 by omega) (by omega), if_false, e 163 (by decide), a9, hth, dp_w, nI_1]
        have ei := isof_c e c l day on i
        by_cases z1 : isof M c l day on i
        · rw [if_pos (ei.mpr z1)]
          by_cases z2 : dp_I M 56 i = 0
          · rw [if_pos z2]
            have : fit M c l day on i = true := by unfold fit; exact decide_eq_true ⟨z1, Or.inl z2⟩
            rw [bI_t this] at hr; exact hr
          · rw [if_neg z2]
            by_cases z3 : dp_I M 56 i &&& dp_I M 51 1 = 0
            · rw [if_pos z3]
              have : ¬ fit M c l day on i = true := by unfold fit; rw [decide_eq_true_eq]; exact fun q => q.2.elim z2 (fun w => w z3)
              rw [bI_f this] at hr; exact hr
            · rw [if_neg z3]
              have : fit M c l day on i = true := by unfold fit; exact decide_eq_true ⟨z1, Or.inr z3⟩
              rw [bI_t this] at hr; exact hr
        · rw [if_neg (fun q => z1 (ei.mp q))]
          have : ¬ fit M c l day on i = true := by unfold fit; rw [decide_eq_true_eq]; exact fun q => z1 q.1
          rw [bI_f this] at hr; exact hr) M ⟨Off.rr _ _ _, rfl, rfl, rfl, fun r h1 h2 => by omega⟩
  -- then: those that are found
  obtain ⟨M3, ⟨o3, q1, q2, q3, q7, q8, q9⟩, t3⟩ := lpt (F := fun k N => D_X12_finds_77 xs xl (d + 4) c (nI l) day on (nI k) N) (a := 0) (N := 8)
    (Inv := fun k N => Off [167, 169] [70] M N ∧ dp_n N = dp_n M ∧ dp_z N = dp_z M ∧ dp_J N = dp_J M ∧ dp_I N 114 70 = nI (cn (sel M c l day on R) (kf M) R k 1) ∧ FInv (sel M c l day on R) (kf M) R k 1 (dp_I N 167) ∧ dp_I N 169 = dp_I M2 169)
    (by omega) (by
      rintro k N - hk ⟨o, i1, i2, i3, i7, i8, i9⟩
      obtain ⟨N', ⟨o', j1, j2, j3, j7, j8, j9⟩, t'⟩ := lpt (F := fun i N => D_X12_finds_87 xs xl (d + 4) c (nI l) day on (nI k) (nI i) N) (a := 1) (N := R + 1)
        (Inv := fun i N => Off [167, 169] [70] M N ∧ dp_n N = dp_n M ∧ dp_z N = dp_z M ∧ dp_J N = dp_J M ∧ dp_I N 114 70 = nI (cn (sel M c l day on R) (kf M) R k i) ∧ FInv (sel M c l day on R) (kf M) R k i (dp_I N 167) ∧ dp_I N 169 = dp_I M2 169)
        (by omega) (by
          rintro i N hi1 hi ⟨o, i1, i2, i3, i7, i8, i9⟩
          have e := core_c o (by decide)
          have hTM := a13 i hi1 (by omega)
          have hT : ∀ x, 1 ≤ x → x ≤ R → TRw N x := fun x x1 x2 => (a13 x x1 x2).off o (by decide) (by decide)
          have ek : ∀ x, 1 ≤ x → x ≤ R → dp_I N 159 x = nI (kf M x) := fun x x1 x2 => by rw [e 159 (by decide)]; exact (TRw_kf (a13 x x1 x2)).1
          have k8 : ∀ x, 1 ≤ x → x ≤ R → kf M x < 8 := fun x x1 x2 => (TRw_kf (a13 x x1 x2)).2.2
          have k8i := k8 i hi1 (by omega)
          have hrow : dp_I N 114 55 = nI R := by rw [(o.2.1 55 (by decide)).1]; exact a2
          have hcn := cn_le (sel := sel M c l day on R) (kf := kf M) (R := R) (k := k) (i := i) sel_0
          -- what is done with an answer
          have done : ∀ b : Bool, ∀ x, (b = true ↔ (sel M c l day on R i = true ∧ kf M i = k)) → ∀ r, D_X12_finds_87 xs xl (d + 4) c (nI l) day on (nI k) (nI (i + 1)) (if sel M c l day on R i = true ∧ kf M i = k then dp_setI (dp_setI N 167 (cn (sel M c l day on R) (kf M) R k i) (nI i)) 114 70 (nI (cn (sel M c l day on R) (kf M) R k i + 1)) else N) = some r → D_X12_finds_182 xs xl (d + 4) c (nI l) day on (nI k) (nI i) (bI (b = true)) x N = some r := by
            intro b x hb r hr
            rw [D_X12_finds_182_eq]
            simp only [dp_w, nI_1, i7]
            by_cases z : b = true
            · have hs := hb.mp z
              have hadd := cn_add (sel := sel M c l day on R) (kf := kf M) (R := R) (k := k) (i := i) (by omega) hs.1 hs.2
              have hle := cn_le (sel := sel M c l day on R) (kf := kf M) (R := R) (k := k) (i := i + 1) sel_0
              rw [bI_t z, if_neg (by decide)]
              rw [if_pos hs] at hr
              simp only [nI_cl (show cn (sel M c l day on R) (kf M) R k i < 2147483648 by omega), nI_o (show cn (sel M c l day on R) (kf M) R k i < 300 by omega) (by omega), if_false, gII, Nat.reduceEqDiff, i7, nI_1]
              apply D_X12_finds_87_to_87_a
              exact hr
            · rw [bI_f z, if_pos rfl]
              rw [if_neg (fun q => z (hb.mpr q))] at hr
              apply D_X12_finds_87_to_87_a
              exact hr
          -- the question whether another one beats it
          have ask : ∀ r, D_X12_finds_87 xs xl (d + 4) c (nI l) day on (nI k) (nI (i + 1)) (if sel M c l day on R i = true ∧ kf M i = k then dp_setI (dp_setI N 167 (cn (sel M c l day on R) (kf M) R k i) (nI i)) 114 70 (nI (cn (sel M c l day on R) (kf M) R k i + 1)) else N) = some r → fit M c l day on i = true → kf M i = k → D_X12_finds_128 xs xl (d + 4) c (nI l) day on (nI k) (nI i) 1 (nI 1) N = some r := by
            intro r hr hf hk2
            by_cases c4 : 4 ≤ k
            · have hs : sel M c l day on R i = true := by
                unfold sel
                rw [decide_eq_true hi1, hf, decide_eq_true (show 4 ≤ kf M i by omega)]; rfl
              have := done true (nI 1) ⟨fun _ => ⟨hs, hk2⟩, fun _ => rfl⟩ r hr
              rw [bI_t rfl] at this
              rw [D_X12_finds_128_eq, if_pos (show (4 : Int32) ≤ nI (k) from nI_le (a := 4) (b := k) (by omega) (by omega))]
              split <;> exact this
            · -- the first that beats it
              have hb : ∀ x, 1 ≤ x → x ≤ R → dp_den true xs xl (d + 4) 460 [.ref 114, .int (nI x), .int (nI i)] N = iR (bI (kf M x = kf M i ∧ stg M i < stg M x)) N := fun x x1 x2 => by
                have := TRw_kf (a13 x x1 x2)
                rw [tm_beats (by omega) (by omega) (hT i hi1 (by omega)) (hT x x1 x2), stg_c e, stg_c e, ek x x1 x2, ek i hi1 (by omega)]
                apply iRc
                rw [nI_eq (by omega) (by omega)]
              have hfx : ∀ x, 1 ≤ x → x ≤ R → dp_I N 169 x = bI (fit M c l day on x = true) := fun x x1 x2 => by rw [i9]; exact g5 x x1 (by omega)
              rcases fst_or (fun x => fit M c l day on x && decide (kf M x = kf M i ∧ stg M i < stg M x)) 1 (R + 1) with ⟨j, j1, j2, j3, j4⟩ | j0
              · have nb : ¬ sel M c l day on R i = true := by
                  unfold sel
                  simp only [Bool.and_eq_true, Bool.or_eq_true, decide_eq_true_eq] at j3 ⊢
                  rintro ⟨-, q | q⟩
                  · omega
                  · exact q j j2 j1 j3.1 j3.2.1 j3.2.2
                refine lpf (F := fun x => D_X12_finds_128 xs xl (d + 4) c (nI l) day on (nI k) (nI i) 1 (nI x) N) j1 (fun x x1 x2 hx => ?_) ?_
                · (try dsimp only at hx); (try dsimp only)
                  rw [D_X12_finds_128_eq, hrow, if_neg (nI_nlt (by omega) (by omega)), if_neg (show ¬ (4 : Int32) ≤ nI (k) from nI_ge (a := k) (b := 4) (by omega) (by omega)), if_neg (by decide)]
                  simp only [nI_cl (show x < 2147483648 by omega), nI_o (show x < 301 by omega) (by omega), if_false, hfx x x1 (by omega), ibz, hb x x1 (by omega), rb_bi, dp_w, nI_1]
                  have := j4 x x1 x2
                  simp only [Bool.and_eq_false_iff, decide_eq_false_iff_not] at this
                  by_cases w : fit M c l day on x = true
                  · rw [if_pos w]
                    rcases this with z | z
                    · rw [w] at z; cases z
                    · rw [if_neg z]; exact hx
                  · rw [if_neg w]; exact hx
                · (try dsimp only)
                  simp only [Bool.and_eq_true, decide_eq_true_eq] at j3
                  rw [D_X12_finds_128_eq, hrow, if_neg (nI_nlt (by omega) (by omega)), if_neg (show ¬ (4 : Int32) ≤ nI (k) from nI_ge (a := k) (b := 4) (by omega) (by omega)), if_neg (by decide)]
                  simp only [nI_cl (show j < 2147483648 by omega), nI_o (show j < 301 by omega) (by omega), if_false, hfx j j1 (by omega), ibz, hb j j1 (by omega), rb_bi, dp_w, nI_1, if_pos j3.1, if_pos j3.2]
                  have d0 := done false (nI (j + 1)) ⟨fun q => (by cases q), fun q => absurd q.1 nb⟩ r hr
                  rw [bI_f (by decide)] at d0
                  rw [D_X12_finds_128_eq]
                  split
                  · exact d0
                  · rw [if_neg (show ¬ (4 : Int32) ≤ nI (k) from nI_ge (a := k) (b := 4) (by omega) (by omega)), if_pos rfl]; exact d0
              · have yb : sel M c l day on R i = true := by
                  unfold sel
                  simp only [Bool.and_eq_true, Bool.or_eq_true, decide_eq_true_eq]
                  refine ⟨⟨hi1, hf⟩, Or.inr (fun x x1 x2 x3 x4 x5 => ?_)⟩
                  have := j0 x x2 x1
                  simp only [Bool.and_eq_false_iff, decide_eq_false_iff_not] at this
                  rcases this with z | z
                  · rw [x3] at z; cases z
                  · exact z ⟨x4, x5⟩
                refine lpf (F := fun x => D_X12_finds_128 xs xl (d + 4) c (nI l) day on (nI k) (nI i) 1 (nI x) N) (show 1 ≤ R + 1 by omega) (fun x x1 x2 hx => ?_) ?_
                · (try dsimp only at hx); (try dsimp only)
                  rw [D_X12_finds_128_eq, hrow, if_neg (nI_nlt (by omega) (by omega)), if_neg (show ¬ (4 : Int32) ≤ nI (k) from nI_ge (a := k) (b := 4) (by omega) (by omega)), if_neg (by decide)]
                  simp only [nI_cl (show x < 2147483648 by omega), nI_o (show x < 301 by omega) (by omega), if_false, hfx x x1 (by omega), ibz, hb x x1 (by omega), rb_bi, dp_w, nI_1]
                  have := j0 x x1 x2
                  simp only [Bool.and_eq_false_iff, decide_eq_false_iff_not] at this
                  by_cases w : fit M c l day on x = true
                  · rw [if_pos w]
                    rcases this with z | z
                    · rw [w] at z; cases z
                    · rw [if_neg z]; exact hx
                  · rw [if_neg w]; exact hx
                · (try dsimp only)
                  have d1 := done true (nI (R + 1)) ⟨fun _ => ⟨yb, hk2⟩, fun _ => rfl⟩ r hr
                  rw [bI_t rfl] at d1
                  rw [D_X12_finds_128_eq, hrow, if_pos (nI_lt (by omega) (by omega))]
                  exact d1
          have no : ∀ r, D_X12_finds_87 xs xl (d + 4) c (nI l) day on (nI k) (nI (i + 1)) (if sel M c l day on R i = true ∧ kf M i = k then dp_setI (dp_setI N 167 (cn (sel M c l day on R) (kf M) R k i) (nI i)) 114 70 (nI (cn (sel M c l day on R) (kf M) R k i + 1)) else N) = some r → ¬ (sel M c l day on R i = true ∧ kf M i = k) → D_X12_finds_128 xs xl (d + 4) c (nI l) day on (nI k) (nI i) 0 (nI 1) N = some r := by
            intro r hr hns
            have d0 := done false (nI 1) ⟨fun q => (by cases q), fun q => absurd q hns⟩ r hr
            rw [bI_f (by decide)] at d0
            rw [D_X12_finds_128_eq]
            split
            · exact d0
            · split
              · exact d0
              · rw [if_pos rfl]; exact d0
          have step : ∀ r, D_X12_finds_87 xs xl (d + 4) c (nI l) day on (nI k) (nI (i + 1)) (if sel M c l day on R i = true ∧ kf M i = k then dp_setI (dp_setI N 167 (cn (sel M c l day on R) (kf M) R k i) (nI i)) 114 70 (nI (cn (sel M c l day on R) (kf M) R k i + 1)) else N) = some r → D_X12_finds_87 xs xl (d + 4) c (nI l) day on (nI k) (nI i) N = some r := fun r hr => by
            rw [D_X12_finds_87_eq, hrow, if_neg (nI_nlt (by omega) (by omega))]
            simp only [nI_cl (show i < 2147483648 by omega), nI_o (show i < 301 by omega) (by omega), if_false, dp_w, i9, g5 i hi1 hi, ibz, ek i hi1 (by omega), nI_eq (show kf M i < 2147483648 by omega) (show k < 2147483648 by omega)]
            by_cases z1 : fit M c l day on i = true
            · rw [if_pos z1]
              by_cases z2 : kf M i = k
              · rw [if_pos z2]; exact ask r hr z1 z2
              · rw [if_neg z2]; exact no r hr (fun q => z2 q.2)
            · rw [if_neg z1]
              refine no r hr (fun q => z1 ?_)
              have := q.1
              unfold sel at this
              simp only [Bool.and_eq_true] at this
              exact this.1.2
          by_cases cs : sel M c l day on R i = true ∧ kf M i = k
          · have hadd := cn_add (sel := sel M c l day on R) (kf := kf M) (R := R) (k := k) (i := i) (by omega) cs.1 cs.2
            refine ⟨dp_setI (dp_setI N 167 (cn (sel M c l day on R) (kf M) R k i) (nI i)) 114 70 (nI (cn (sel M c l day on R) (kf M) R k i + 1)), ⟨(o.I 167 (by decide) _ _).F 70 (by decide) _, i1, i2, i3, ?_, ?_, ?_⟩, fun r hr => step r (by rw [if_pos cs]; exact hr)⟩
            · simp only [gII, if_true, uI_s]; rw [hadd]
            · simp only [gII, Nat.reduceEqDiff, if_false, if_true]
              exact FInv_add i8 hi1 (by omega) cs.1 cs.2
            · simp only [gII, Nat.reduceEqDiff, if_false]; exact i9
          · refine ⟨N, ⟨o, i1, i2, i3, ?_, ?_, i9⟩, fun r hr => step r (by rw [if_neg cs]; exact hr)⟩
            · rw [cn_skip cs]; exact i7
            · unfold FInv; rw [cn_skip cs]; exact i8) N ⟨o, i1, i2, i3, i7, i8, i9⟩
      have hnx := cn_next (sel := sel M c l day on R) (kf := kf M) (R := R) (k := k) sel_0
      refine ⟨N', ⟨o', j1, j2, j3, by rw [← hnx]; exact j7, by unfold FInv; rw [← hnx]; exact j8, j9⟩, fun r hr => ?_⟩
      (try dsimp only at hr); (try dsimp only)
      rw [D_X12_finds_77_eq, if_neg (show ¬ (8 : Int32) ≤ nI (k) from nI_ge (a := k) (b := 8) (by omega) (by omega))]
      simp only [dp_w]
      apply t'
      (try dsimp only)
      rw [D_X12_finds_87_eq, (o'.2.1 55 (by decide)).1, a2, if_pos (nI_lt (by omega) (by omega))]
      simp only [dp_w, nI_1]
      apply D_X12_finds_77_to_77_a
      exact hr) (dp_setI M2 114 70 0) ⟨(o2.mono (by decide) (by decide) : Off [167, 169] [70] M M2).F 70 (by decide) _, g1, g2, g3, by simp only [gII, if_true, uI_s]; rw [cn_0 sel_0]; rfl, by intro j hj; rw [cn_0 sel_0] at hj; omega, by simp only [gII, Nat.reduceEqDiff, if_false]⟩
  refine ⟨M3, ?_, o3, q1, q2, q3, q7, q8⟩
  rw [D_X12_finds_0_den, D_X12_finds_0_eq]
  simp only [dp_w]
  apply t2
  (try dsimp only)
  rw [D_X12_finds_3_eq, (o2.2.1 55 (by decide)).1, a2, if_pos (nI_lt (by omega) (by omega))]
  simp only [dp_w]
  apply t3
  (try dsimp only)
  rw [D_X12_finds_77_eq, if_pos (by decide)]
end TL
