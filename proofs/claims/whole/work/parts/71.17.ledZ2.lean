/-! THE LEDGER: what is passed on: dealing -/
section LEZ2
variable {xs : Nat → Int32} {xl d : Nat} {M : dp_M}
theorem lc_ix4 {b k : Nat} : nI b * (4 : Int32) + nI k = nI (b * 4 + k) := by rw [show (4 : Int32) = nI 4 from rfl, pk_mul, nI_add]
theorem lm_ix4 {b k : Nat} : (4 : Int32) * nI b + nI k = nI (b * 4 + k) := by rw [show (4 : Int32) = nI 4 from rfl, pk_mul, nI_add, Nat.mul_comm]
/-- the rounds in which one more is given -/
theorem lc_rounds {k l : Nat} {pot A lf : Int64} {q rm : Nat → Int64} (hl : lf.toInt = (l : Int)) (hl3 : l ≤ 3) (hrm : ∀ r, r < 4 → 0 ≤ (rm r).toInt) (hq : ∀ r, r < 4 → dp_J M 106 r = q r) (hm : ∀ r, r < 4 → dp_J M 107 r = rm r) :
    ∃ M', D_X3_deal_141 xs xl (d + 1) (nI k) pot A lf 0 M = vR M' ∧ Off [106, 107] [] M M' ∧ dp_n M' = dp_n M ∧ dp_z M' = dp_z M ∧ dp_I M' = dp_I M ∧ ∀ r, r < 4 → dp_J M' 106 r = q r + (if cb (fun i => (rm i).toInt) r < l then 1 else 0) := by
  have eL : lf = lN l := by
    rw [← Int64.toInt_inj, hl, lN_toInt (by omega)]
  subst eL
  have key := lpi (F := fun t N => D_X3_deal_141 xs xl (d + 1) (nI k) pot A (lN (l - t)) (nI t) N) (a := 0) (N := l)
    (Inv := fun t N => Off [106, 107] [] M N ∧ dp_n N = dp_n M ∧ dp_z N = dp_z M ∧ dp_I N = dp_I M ∧ (∀ r, r < 4 → dp_J N 106 r = q r + (if cb (fun i => (rm i).toInt) r < t then 1 else 0)) ∧ ∀ r, r < 4 → dp_J N 107 r = if cb (fun i => (rm i).toInt) r < t then -1 else rm r)
    (Post := fun r => ∃ M', r = (.inl none, M') ∧ Off [106, 107] [] M M' ∧ dp_n M' = dp_n M ∧ dp_z M' = dp_z M ∧ dp_I M' = dp_I M ∧ ∀ r, r < 4 → dp_J M' 106 r = q r + (if cb (fun i => (rm i).toInt) r < l then 1 else 0))
    (Nat.zero_le _) ?_ ?_ M ?_
  · obtain ⟨r, hr, M', rfl, z⟩ := key
    exact ⟨M', hr, z⟩
  · rintro N ⟨o, i1, i2, i3, i4, i5⟩
    refine ⟨(.inl none, N), ?_, N, rfl, o, i1, i2, i3, i4⟩
    try dsimp only
    rw [D_X3_deal_141_eq, if_neg (show ¬ (4 : Int32) ≤ nI (l) from nI_ge (a := l) (b := 4) (by omega) (by omega)), Nat.sub_self]
    simp only [lg_cmp_le]
    rw [if_pos (by decide)]
  · rintro t N - ht ⟨o, i1, i2, i3, i4, i5⟩
    obtain ⟨g1, g2, g3⟩ := g4_s (dp_J N 107) 3
    have hg : cb (fun i => (rm i).toInt) (g4 (dp_J N 107) 3) = t := cb_arg (m' := fun r => (dp_J N 107 r).toInt) (fun r hr => hrm r hr) (by omega) (fun r hr => by
      (try dsimp only)
      rw [i5 r hr]
      split
      · decide
      · rfl) (by omega) (fun r hr => g2 r (by omega)) g3
    refine ⟨dp_setJ (dp_setJ N 106 (g4 (dp_J N 107) 3) (dp_J N 106 (g4 (dp_J N 107) 3) + 1)) 107 (g4 (dp_J N 107) 3) (-1), ⟨Off.J 107 (by decide) _ _ (Off.J 106 (by decide) _ _ o), i1, i2, i3, fun r hr => ?_, fun r hr => ?_⟩, fun r hr => ?_⟩
    · simp only [gJJ, Nat.reduceEqDiff, if_true, if_false]
      by_cases e : r = g4 (dp_J N 107) 3
      · rw [e, uI_s, i4 _ (by omega), hg, if_neg (by omega), if_pos (by omega)]; simp
      · have : cb (fun i => (rm i).toInt) r ≠ t := fun z => e (cb_i hr (by omega) (by rw [z, hg]))
        rw [uI_n e, i4 r hr]
        by_cases c : cb (fun i => (rm i).toInt) r < t
        · rw [if_pos c, if_pos (by omega)]
        · rw [if_neg c, if_neg (by omega)]
    · simp only [gJJ, Nat.reduceEqDiff, if_true, if_false]
      by_cases e : r = g4 (dp_J N 107) 3
      · rw [e, uI_s, hg, if_pos (by omega)]
      · have : cb (fun i => (rm i).toInt) r ≠ t := fun z => e (cb_i hr (by omega) (by rw [z, hg]))
        rw [uI_n e, i5 r hr]
        by_cases c : cb (fun i => (rm i).toInt) r < t
        · rw [if_pos c, if_pos (by omega)]
        · rw [if_neg c, if_neg (by omega)]
    · (try dsimp only at hr); (try dsimp only)
      rw [D_X3_deal_141_eq, if_neg (show ¬ (4 : Int32) ≤ nI (t) from nI_ge (a := t) (b := 4) (by omega) (by omega))]
      simp only [lg_cmp_le]
      rw [if_neg (show ¬ lN (l - t) ≤ 0 from fun z => by
        have := (lN_le (a := l - t) (b := 0) (by omega) (by omega)).mp z
        omega), lc_more, rb_bv]
      simp only [dp_w, nI_1]
      rw [show lN (l - t) - 1 = lN (l - (t + 1)) by rw [show (1 : Int64) = lN 1 from rfl, lN_sub (by omega)]; congr 1]
      exact hr
  · refine ⟨Off.rr _ _ _, rfl, rfl, rfl, fun r hr => ?_, fun r hr => ?_⟩
    · rw [hq r hr, if_neg (by omega)]; simp
    · rw [hm r hr, if_neg (by omega)]
theorem lc_deal {k : Nat} {pot : Int64} (hk : k < 4) (h0 : 0 ≤ pot.toInt) (h1 : pot.toInt ≤ 48000000000000) (hP : ∀ i, qin (dp_I M 98 i) 1001) : ∃ M', dp_den true xs xl (d + 2) 101 [.ref 97, .int (nI k), .long pot] M = vR M' ∧ Off [106, 107] [] M M' ∧ dp_n M' = dp_n M ∧ dp_z M' = dp_z M ∧ dp_I M' = dp_I M ∧
    ∀ r, r < 4 → dp_J M' 106 r = shr (fun i => (dp_I M 98 (k * 4 + i)).toInt64) pot r := by
  generalize hPP : (fun i => (dp_I M 98 (k * 4 + i)).toInt64) = P
  have hPe : ∀ i, (dp_I M 98 (k * 4 + i)).toInt64 = P i := fun i => by rw [← hPP]
  have hPb : ∀ i, 0 ≤ (P i).toInt ∧ (P i).toInt ≤ 1000 := fun i => by
    rw [← hPe i, Int32.toInt_toInt64]
    have := qin_iff.mp (hP (k * 4 + i))
    omega
  have eA : (pA P).toInt = (P 0).toInt + (P 1).toInt + (P 2).toInt + (P 3).toInt := by
    have p0 := hPb 0
    have p1 := hPb 1
    have p2 := hPb 2
    have p3 := hPb 3
    unfold pA
    rw [sl4, Int64.zero_add]
    have e1 : (P 0 + P 1).toInt = (P 0).toInt + (P 1).toInt := q_addJ (by omega) (by omega)
    have e2 : (P 0 + P 1 + P 2).toInt = (P 0).toInt + (P 1).toInt + (P 2).toInt := by rw [q_addJ (by omega) (by omega), e1]
    rw [q_addJ (by omega) (by omega), e2]
  have hA0 : 0 ≤ (pA P).toInt := by
    have := hPb 0; have := hPb 1; have := hPb 2; have := hPb 3
    omega
  have start : ∀ r, D_X3_deal_6 xs xl (d + 1) (nI k) pot (pA P) (nI 4) M = some r → dp_den true xs xl (d + 2) 101 [.ref 97, .int (nI k), .long pot] M = some r := fun r hr => by
    rw [D_X3_deal_0_den, D_X3_deal_0_eq]
    simp only [dp_w]
    refine lpb (F := fun a i => D_X3_deal_6 xs xl (d + 1) (nI k) pot a (nI i) M) (s := sl P) (N := 4) hr (fun i hi hr2 => ?_)
    (try dsimp only at hr2); (try dsimp only)
    rw [D_X3_deal_6_eq, if_neg (show ¬ (4 : Int32) ≤ nI (i) from nI_ge (a := i) (b := 4) (by omega) (by omega))]
    simp only [lc_ix4, nI_cl (show k * 4 + i < 2147483648 by omega), nI_o (show k * 4 + i < 16 by omega) (by omega), if_false, dp_w, nI_1, hPe]
    exact hr2
  -- the shares, without what the rounding leaves
  have mid : ∀ (lf0 : Int64) (q rm : Nat → Int64), (∀ i, q i = if pA P ≤ 0 then 0 else pot * P i / pA P) → (∀ i, rm i = if pA P ≤ 0 then 0 else pot * P i - pot * P i / pA P * pA P) →
      ∃ N, (Off [106, 107] [] M N ∧ dp_n N = dp_n M ∧ dp_z N = dp_z M ∧ dp_I N = dp_I M ∧ (∀ r, r < 4 → dp_J N 106 r = q r) ∧ ∀ r, r < 4 → dp_J N 107 r = rm r) ∧
        ∀ r, D_X3_deal_141 xs xl (d + 1) (nI k) pot (pA P) (lf0 - sl q 4) 0 N = some r → D_X3_deal_52 xs xl (d + 1) (nI k) pot (pA P) lf0 0 M = some r := by
    intro lf0 q rm hq hrm
    obtain ⟨N, ⟨o, i1, i2, i3, i4, i5⟩, tr⟩ := lpt (F := fun i N => D_X3_deal_52 xs xl (d + 1) (nI k) pot (pA P) (lf0 - sl q i) (nI i) N) (a := 0) (N := 4)
      (Inv := fun i N => Off [106, 107] [] M N ∧ dp_n N = dp_n M ∧ dp_z N = dp_z M ∧ dp_I N = dp_I M ∧ (∀ r, r < i → dp_J N 106 r = q r) ∧ ∀ r, r < i → dp_J N 107 r = rm r)
      (Nat.zero_le _) (by
        rintro i N - hi ⟨o, i1, i2, i3, i4, i5⟩
        refine ⟨dp_setJ (dp_setJ N 106 i (q i)) 107 i (rm i), ⟨Off.J 107 (by decide) _ _ (Off.J 106 (by decide) _ _ o), i1, i2, i3, fun r hr => ?_, fun r hr => ?_⟩, fun r hr => ?_⟩
        · simp only [gJJ, Nat.reduceEqDiff, if_true, if_false]
          by_cases e : r = i
          · rw [e, uI_s]
          · rw [uI_n e]; exact i4 r (by omega)
        · simp only [gJJ, Nat.reduceEqDiff, if_true, if_false]
          by_cases e : r = i
          · rw [e, uI_s]
          · rw [uI_n e]; exact i5 r (by omega)
        · (try dsimp only at hr); (try dsimp only)
          rw [D_X3_deal_52_eq, if_neg (show ¬ (4 : Int32) ≤ nI (i) from nI_ge (a := i) (b := 4) (by omega) (by omega))]
          simp only [lc_ix4, nI_cl (show k * 4 + i < 2147483648 by omega), nI_o (show k * 4 + i < 16 by omega) (by omega), if_false, dp_w, i3, hPe, lg_cmp_le]
          have hr2 : D_X3_deal_52 xs xl (d + 1) (nI k) pot (pA P) (lf0 - sl q i - q i) (nI (i + 1)) (dp_setJ (dp_setJ N 106 i (q i)) 107 i (rm i)) = some r := by
            rw [q_sub3]; exact hr
          have go : ∀ x9, x9 = pot * P i → D_X3_deal_96 xs xl (d + 1) (nI k) pot (pA P) (lf0 - sl q i) (nI i) x9 (q i) (nI i) N = some r := by
            intro x9 e9
            rw [D_X3_deal_96_eq]
            simp only [nI_cl (show i < 2147483648 by omega), nI_o (show i < 4 by omega) (by omega), if_false, dp_w, nI_1, lg_cmp_le, gJJ, Nat.reduceEqDiff, uI_s]
            by_cases c : pA P ≤ 0
            · rw [if_pos c]
              apply D_X3_deal_52_to_52_a
              have := hrm i
              rw [if_pos c] at this
              rw [← this]; simp only [if_true, uI_s]; exact hr2
            · rw [if_neg c, if_neg (fun z => c (by rw [z]; decide))]
              apply D_X3_deal_52_to_52_a
              have := hrm i
              rw [if_neg c] at this
              rw [e9, ← this]; simp only [if_true, uI_s]; exact hr2
          by_cases c : pA P ≤ 0
          · rw [if_pos c]
            have := hq i
            rw [if_pos c] at this
            rw [← this]; exact go _ rfl
          · rw [if_neg c, if_neg (fun z => c (by rw [z]; decide))]
            have := hq i
            rw [if_neg c] at this
            rw [← this]; exact go _ rfl) M ⟨Off.rr _ _ _, rfl, rfl, rfl, fun r hr => by omega, fun r hr => by omega⟩
    refine ⟨N, ⟨o, i1, i2, i3, i4, i5⟩, fun r hr => ?_⟩
    have e0 : lf0 - sl q 0 = lf0 := by rw [sl, Int64.sub_zero]
    have t := tr r ?_
    · (try dsimp only at t); rw [e0] at t; exact t
    · show D_X3_deal_52 xs xl (d + 1) (nI k) pot (pA P) (lf0 - sl q 4) (nI 4) N = some r
      rw [D_X3_deal_52_eq, if_pos (by decide)]
      exact hr
  by_cases c : pA P ≤ 0
  · have z : pA P = 0 := by
      rw [Int64.le_iff_toInt_le] at c
      rw [← Int64.toInt_inj]
      have : (0 : Int64).toInt = 0 := by decide
      omega
    obtain ⟨N, ⟨o, i1, i2, i3, i4, i5⟩, tr⟩ := mid 0 (fun _ => 0) (fun _ => 0) (fun i => by rw [if_pos c]) (fun i => by rw [if_pos c])
    obtain ⟨M', f1, f2, f3, f4, f5, f6⟩ := lc_rounds (xs := xs) (xl := xl) (d := d) (M := N) (k := k) (l := 0) (pot := pot) (A := pA P) (lf := 0 - sl (fun _ => 0) 4) (q := fun _ => 0) (rm := fun _ => 0) (by decide) (by omega) (fun _ _ => by decide) i4 i5
    refine ⟨M', ?_, Off.tr o f2, by omega, by omega, by rw [f5, i3], fun r hr => ?_⟩
    · apply start
      rw [D_X3_deal_6_eq, if_pos (by decide)]
      simp only [lg_cmp_le, if_pos c, dp_w]
      exact tr _ f1
    · rw [f6 r hr, if_neg (by omega)]
      unfold shr; rw [if_pos z]; rfl
  · have hA : 0 < (pA P).toInt := by
      rw [Int64.le_iff_toInt_le] at c
      have : (0 : Int64).toInt = 0 := by decide
      omega
    obtain ⟨-, w2, w3, w4⟩ := deal_left h0 h1 hPb hA
    obtain ⟨N, ⟨o, i1, i2, i3, i4, i5⟩, tr⟩ := mid pot (fun i => pot * P i / pA P) (fun i => pot * P i - pot * P i / pA P * pA P) (fun i => by rw [if_neg c]) (fun i => by rw [if_neg c])
    obtain ⟨M', f1, f2, f3, f4, f5, f6⟩ := lc_rounds (xs := xs) (xl := xl) (d := d) (M := N) (k := k) (l := (pot - sl (fun i => pot * P i / pA P) 4).toInt.toNat) (pot := pot) (A := pA P) (lf := pot - sl (fun i => pot * P i / pA P) 4) (by omega) (by omega) (fun r _ => w2 r) i4 i5
    refine ⟨M', ?_, Off.tr o f2, by omega, by omega, by rw [f5, i3], fun r hr => ?_⟩
    · apply start
      rw [D_X3_deal_6_eq, if_pos (by decide)]
      simp only [lg_cmp_le, if_neg c, dp_w]
      exact tr _ f1
    · rw [f6 r hr]
      unfold shr
      rw [if_neg (show ¬ pA P = 0 from fun z => c (by rw [z]; decide))]
      congr 1
      by_cases e : cb (fun i => (pot * P i - pot * P i / pA P * pA P).toInt) r < (pot - sl (fun i => pot * P i / pA P) 4).toInt.toNat
      · rw [if_pos e, if_pos (by omega)]
      · rw [if_neg e, if_neg (by omega)]
end LEZ2
