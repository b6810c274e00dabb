/-! THE TARIFF: row -/
/-- the last day of a row, all that was told being known -/
def lD (M : dp_M) (r : Nat) : Int32 := dp_I M 165 (r * 8 + bb (fun k => dp_I M 166 (r * 8 + k)) (dp_I M 114 67) (dp_I M 164 r).toNatClampNeg)
def cl (M : dp_M) (v1 v2 v3 v4 v5 v6 : Int32) (r : Nat) : Bool := decide (dp_I M 156 r = v1 ∧ dp_I M 157 r = v2 ∧ dp_I M 159 r = v5 ∧ dp_I M 160 r = v6 ∧ dp_I M 158 r ≤ v4 ∧ v3 ≤ lD M r)
def tW (M : dp_M) (s : Nat) (v1 v2 v3 v4 v5 v6 v7 : Int32) : dp_M := dp_setI (dp_setI (dp_setI (dp_setI (dp_setI (dp_setI (dp_setI (dp_setI (dp_setI M 60 s v1) 61 s v2) 52 s v3) 53 s v5) 62 s v6) 54 s 0) 63 (s * 8 + 0) v4) 64 (s * 8 + 0) v7) 54 s (nI (0 + 1))
section TG
variable {xs : Nat → Int32} {xl d : Nat} {M : dp_M}
theorem qin_10000 {v : Int32} (h : qin v 10001) : v ≤ 10000 := by
  have := qin_iff.mp h
  rw [Int32.le_iff_toInt_le]
  have e : (10000 : Int32).toInt = 10000 := by decide
  omega
theorem TRw_lD {r : Nat} (h : TRw M r) (hr : r < 301) : dp_den true xs xl (d + 1) 217 [.ref 51, .int (nI r), .int 10000] M = iR (lD M r) M ∧ dp_den true xs xl (d + 1) 452 [.ref 114, .int (nI r), .int (dp_I M 114 67)] M = iR (lD M r) M := by
  obtain ⟨n, h1, h2, h3, h4, h5, h6, h7, h8, h9, h10, h11, h12, h13, h14, h15⟩ := h
  have e1 : (dp_I M 164 r).toNatClampNeg = n := by rw [h3, nI_cl (by omega)]
  have hb := bb_lt (f := fun k => dp_I M 166 (r * 8 + k)) (on := dp_I M 114 67) n h1
  have e2 : bb (fun k => dp_I M 64 (r * 8 + k)) 10000 n = bb (fun k => dp_I M 166 (r * 8 + k)) (dp_I M 114 67) n := bb_c n (fun k hk => by
    obtain ⟨c1, c2, c3, c4⟩ := h15 k hk
    (try dsimp only)
    refine ⟨c2, ?_⟩
    rw [c2]
    exact ⟨fun _ => c4, fun _ => qin_10000 c3⟩)
  constructor
  · rw [tc_lastDay hr h1 h2 h4 (by obtain ⟨c1, c2, c3, c4⟩ := h15 0 (by omega); rw [c2]; exact qin_10000 c3) (fun k hk => by obtain ⟨c1, c2, c3, c4⟩ := h15 k hk; rw [c2]; exact c3), e2, (h15 _ hb).1]
    unfold lD
    rw [e1]
  · rw [tm_lastOf hr h1 h2 h3 (h15 0 (by omega)).2.2.2]
    unfold lD
    rw [e1]
theorem tW_off {s : Nat} {v1 v2 v3 v4 v5 v6 v7 : Int32} : Off [60, 61, 52, 53, 62, 54, 63, 64] [] M (tW M s v1 v2 v3 v4 v5 v6 v7) := by
  unfold tW
  repeat first | apply Off.I _ (by decide)
  exact Off.rr _ _ _
theorem tW_row {s r : Nat} {v1 v2 v3 v4 v5 v6 v7 : Int32} (h : TRw M r) (e : r ≠ s) : TRw (tW M s v1 v2 v3 v4 v5 v6 v7) r := by
  unfold tW
  refine h.same ?_ (fun k hk => ?_) ?_
  · simp [gII, uI_n e]
  · simp only [gII, Nat.reduceEqDiff, if_false, if_true]
    rw [uI_n (by omega), uI_n (by omega)]
    exact ⟨rfl, rfl, trivial, trivial⟩
  · simp only [gII, Nat.reduceEqDiff, if_false]
    exact Int32.le_refl _
theorem lD_c {M M' : dp_M} (h1 : dp_I M' 165 = dp_I M 165) (h2 : dp_I M' 166 = dp_I M 166) (h3 : dp_I M' 114 67 = dp_I M 114 67) (h4 : dp_I M' 164 = dp_I M 164) (r : Nat) : lD M' r = lD M r := by
  unfold lD; rw [h1, h2, h3, h4]
theorem tc_clash {s r : Nat} {v1 v2 v3 v4 v5 v6 v7 : Int32} (hs : s < 301) (hr : r < 301) (e : r ≠ s) (h : TRw M r) (h7 : qin v7 10001) : dp_den true xs xl (d + 2) 214 [.ref 51, .int (nI s), .int (nI r)] (tW M s v1 v2 v3 v4 v5 v6 v7) = iR (bI (cl M v1 v2 v3 v4 v5 v6 r = true)) (tW M s v1 v2 v3 v4 v5 v6 v7) := by
  have hw := tW_row (v1 := v1) (v2 := v2) (v3 := v3) (v4 := v4) (v5 := v5) (v6 := v6) (v7 := v7) h e
  have l1 := (TRw_lD (xs := xs) (xl := xl) (d := d) hw hr).1
  have elD : lD (tW M s v1 v2 v3 v4 v5 v6 v7) r = lD M r := lD_c (by unfold tW; simp only [gII, Nat.reduceEqDiff, if_false]) (by unfold tW; simp only [gII, Nat.reduceEqDiff, if_false]) (by unfold tW; simp only [gII, Nat.reduceEqDiff, if_false]) (by unfold tW; simp only [gII, Nat.reduceEqDiff, if_false]) r
  have l2 : dp_den true xs xl (d + 1) 217 [.ref 51, .int (nI s), .int 10000] (tW M s v1 v2 v3 v4 v5 v6 v7) = iR v4 (tW M s v1 v2 v3 v4 v5 v6 v7) := by
    rw [tc_lastDay (n := 1) hs (by omega) (by omega) (by unfold tW; simp only [gII, Nat.reduceEqDiff, if_false, if_true, uI_s]) (by unfold tW; simp only [gII, Nat.reduceEqDiff, if_false, if_true, uI_s]; exact qin_10000 h7) (fun k hk => by
      have : k = 0 := by omega
      subst this
      unfold tW; simp only [gII, Nat.reduceEqDiff, if_false, if_true, uI_s]; exact h7)]
    have e1 := bb_lt (f := fun k => dp_I (tW M s v1 v2 v3 v4 v5 v6 v7) 64 (s * 8 + k)) (on := 10000) 1 (by omega)
    rw [show bb (fun k => dp_I (tW M s v1 v2 v3 v4 v5 v6 v7) 64 (s * 8 + k)) 10000 1 = 0 by omega]
    unfold tW; simp only [gII, Nat.reduceEqDiff, if_false, if_true, uI_s]
  obtain ⟨n, h1, h2, h3, h4, h5, h6, h7', h8, h9, -⟩ := h
  rw [elD] at l1
  have f1 : dp_I (tW M s v1 v2 v3 v4 v5 v6 v7) 60 s = v1 ∧ dp_I (tW M s v1 v2 v3 v4 v5 v6 v7) 61 s = v2 ∧ dp_I (tW M s v1 v2 v3 v4 v5 v6 v7) 52 s = v3 ∧ dp_I (tW M s v1 v2 v3 v4 v5 v6 v7) 53 s = v5 ∧ dp_I (tW M s v1 v2 v3 v4 v5 v6 v7) 62 s = v6 := by
    unfold tW; simp only [gII, Nat.reduceEqDiff, if_false, if_true, uI_s, and_self]
  have f2 : dp_I (tW M s v1 v2 v3 v4 v5 v6 v7) 60 r = dp_I M 156 r ∧ dp_I (tW M s v1 v2 v3 v4 v5 v6 v7) 61 r = dp_I M 157 r ∧ dp_I (tW M s v1 v2 v3 v4 v5 v6 v7) 52 r = dp_I M 158 r ∧ dp_I (tW M s v1 v2 v3 v4 v5 v6 v7) 53 r = dp_I M 159 r ∧ dp_I (tW M s v1 v2 v3 v4 v5 v6 v7) 62 r = dp_I M 160 r := by
    unfold tW; simp only [gII, Nat.reduceEqDiff, if_false, if_true, uI_n e]
    exact ⟨h5, h6, h7', h8, h9⟩
  generalize tW M s v1 v2 v3 v4 v5 v6 v7 = W at *
  obtain ⟨p1, p2, p3, p4, p5⟩ := f1
  obtain ⟨q1, q2, q3, q4, q5⟩ := f2
  rw [D_X9_clash_0_den, D_X9_clash_0_eq]
  simp only [nI_cl (show r < 2147483648 by omega), nI_o (show r < 301 by omega) (by omega), nI_cl (show s < 2147483648 by omega), nI_o (show s < 301 by omega) (by omega), if_false, p1, p2, p3, p4, p5, q1, q2, q3, q4, q5, D_X9_clash_65_eq, l1, l2, rb_bi, if_true, if_neg (show ¬ (1 : Int32) = 0 by decide)]
  unfold cl
  simp only [decide_eq_true_eq]
  by_cases c1 : v1 = dp_I M 156 r
  case neg => rw [if_neg c1, bI_f (fun q => c1 q.1.symm)]
  rw [if_pos c1]
  by_cases c2 : v2 = dp_I M 157 r
  case neg => rw [if_neg c2, bI_f (fun q => c2 q.2.1.symm)]
  rw [if_pos c2]
  by_cases c3 : v5 = dp_I M 159 r
  case neg => rw [if_neg c3, bI_f (fun q => c3 q.2.2.1.symm)]
  rw [if_pos c3]
  by_cases c4 : v6 = dp_I M 160 r
  case neg => rw [if_neg c4, bI_f (fun q => c4 q.2.2.2.1.symm)]
  rw [if_pos c4]
  by_cases c5 : lD M r < v3
  · rw [if_pos c5, bI_f (fun q => absurd q.2.2.2.2.2 (Int32.not_le.mpr c5))]
  rw [if_neg c5]
  by_cases c6 : v4 < dp_I M 158 r
  · rw [if_pos c6, bI_f (fun q => absurd q.2.2.2.2.1 (Int32.not_le.mpr c6))]
  rw [if_neg c6, bI_t ⟨c1.symm, c2.symm, c3.symm, c4.symm, Int32.not_lt.mp c6, Int32.not_lt.mp c5⟩]
theorem tc_addRow {R : Nat} {v1 v2 v3 v4 v5 v6 v7 : Int32} (hR : R < 300) (a1 : dp_I M 51 0 = nI R) (h : ∀ r, 1 ≤ r → r ≤ R → TRw M r) (h7 : qin v7 10001) :
    (∀ j, 1 ≤ j → j ≤ R → cl M v1 v2 v3 v4 v5 v6 j = true → (∀ i, 1 ≤ i → i < j → cl M v1 v2 v3 v4 v5 v6 i = false) → dp_den true xs xl (d + 3) 213 [.ref 51, .int v1, .int v2, .int v3, .int v4, .int v5, .int v6, .int v7] M = iR (-1 - nI j) (tW M (R + 1) v1 v2 v3 v4 v5 v6 v7)) ∧
    ((∀ i, 1 ≤ i → i < R + 1 → cl M v1 v2 v3 v4 v5 v6 i = false) → dp_den true xs xl (d + 3) 213 [.ref 51, .int v1, .int v2, .int v3, .int v4, .int v5, .int v6, .int v7] M = iR (nI (R + 1)) (dp_setI (tW M (R + 1) v1 v2 v3 v4 v5 v6 v7) 51 0 (nI (R + 1)))) := by
  have a1' : dp_I (tW M (R + 1) v1 v2 v3 v4 v5 v6 v7) 51 0 = nI R := by
    unfold tW; simp only [gII, Nat.reduceEqDiff, if_false]; exact a1
  have st : ∀ res, D_X9_addRow_72 xs xl (d + 2) v1 v2 v3 v4 v5 v6 v7 (nI (R + 1)) (nI 1) (tW M (R + 1) v1 v2 v3 v4 v5 v6 v7) = some res → dp_den true xs xl (d + 3) 213 [.ref 51, .int v1, .int v2, .int v3, .int v4, .int v5, .int v6, .int v7] M = some res := fun res hres => by
    rw [D_X9_addRow_0_den, D_X9_addRow_0_eq, a1]
    simp only [dp_w, nI_1, nI_cl (show R + 1 < 2147483648 by omega), nI_o (show R + 1 < 301 by omega) (by omega), if_false]
    rw [tc_addEnd (n := 0) (by omega) (by omega) (by simp only [gII, Nat.reduceEqDiff, if_false, if_true, uI_s]; rfl), rb_bi]
    exact hres
  have sk : ∀ i res, 1 ≤ i → i ≤ R → cl M v1 v2 v3 v4 v5 v6 i = false → D_X9_addRow_72 xs xl (d + 2) v1 v2 v3 v4 v5 v6 v7 (nI (R + 1)) (nI (i + 1)) (tW M (R + 1) v1 v2 v3 v4 v5 v6 v7) = some res → D_X9_addRow_72 xs xl (d + 2) v1 v2 v3 v4 v5 v6 v7 (nI (R + 1)) (nI i) (tW M (R + 1) v1 v2 v3 v4 v5 v6 v7) = some res := fun i res h1 h2 h3 hr => by
    rw [D_X9_addRow_72_eq, a1', if_neg (nI_nlt (by omega) (by omega)), tc_clash (by omega) (by omega) (by omega) (h i h1 h2) h7, rb_bi, h3, bI_f (by decide), if_pos rfl]
    simp only [dp_w, nI_1]
    exact hr
  constructor
  · intro j hj1 hj2 hc hn
    apply st
    refine lpf (F := fun i => D_X9_addRow_72 xs xl (d + 2) v1 v2 v3 v4 v5 v6 v7 (nI (R + 1)) (nI i) (tW M (R + 1) v1 v2 v3 v4 v5 v6 v7)) hj1 (fun i h1 h2 hr => sk i _ h1 (by omega) (hn i h1 h2) hr) ?_
    (try dsimp only)
    rw [D_X9_addRow_72_eq, a1', if_neg (nI_nlt (by omega) (by omega)), tc_clash (by omega) (by omega) (by omega) (h j hj1 hj2) h7, rb_bi, hc, bI_t rfl, if_neg (by decide)]
  · intro hn
    apply st
    refine lpf (F := fun i => D_X9_addRow_72 xs xl (d + 2) v1 v2 v3 v4 v5 v6 v7 (nI (R + 1)) (nI i) (tW M (R + 1) v1 v2 v3 v4 v5 v6 v7)) (show 1 ≤ R + 1 by omega) (fun i h1 h2 hr => sk i _ h1 (by omega) (hn i h1 h2) hr) ?_
    (try dsimp only)
    rw [D_X9_addRow_72_eq, a1', if_pos (nI_lt (by omega) (by omega))]
    simp only [dp_w]
def mW (N : dp_M) (R : Nat) (v1 v2 v3 v4 v5 v6 v7 : Int32) : dp_M := dp_setI (dp_setI (dp_setI (dp_setI (dp_setI (dp_setI (dp_setI (dp_setI (dp_setI (dp_setI (dp_setI N 114 55 (nI (R + 1))) 156 (R + 1) v1) 157 (R + 1) v2) 158 (R + 1) v3) 159 (R + 1) v5) 160 (R + 1) v6) 161 (R + 1) v7) 164 (R + 1) 1) 165 ((R + 1) * 8) v4) 166 ((R + 1) * 8) v7) 114 67 (if v7 ≤ dp_I N 114 67 then dp_I N 114 67 else v7)
theorem tm_row {R : Nat} {v1 v2 v3 v4 v5 v6 v7 : Int32} (hR : R < 300) (a2 : dp_I M 114 55 = nI R) (h : ∀ r, 1 ≤ r → r ≤ R → TRw M r) :
    (∀ j, 1 ≤ j → j ≤ R → cl M v1 v2 v3 v4 v5 v6 j = true → (∀ i, 1 ≤ i → i < j → cl M v1 v2 v3 v4 v5 v6 i = false) → D_X12_row_118 xs xl (d + 1) v1 v2 v3 v4 v5 v6 v7 (nI 1) M = iR (-1 - nI j) M) ∧
    ((∀ i, 1 ≤ i → i < R + 1 → cl M v1 v2 v3 v4 v5 v6 i = false) → D_X12_row_118 xs xl (d + 1) v1 v2 v3 v4 v5 v6 v7 (nI 1) M = iR (nI (R + 1)) (mW M R v1 v2 v3 v4 v5 v6 v7)) := by
  have sk : ∀ i res, 1 ≤ i → i ≤ R → cl M v1 v2 v3 v4 v5 v6 i = false → D_X12_row_118 xs xl (d + 1) v1 v2 v3 v4 v5 v6 v7 (nI (i + 1)) M = some res → D_X12_row_118 xs xl (d + 1) v1 v2 v3 v4 v5 v6 v7 (nI i) M = some res := fun i res h1 h2 h3 hr => by
    have hl := (TRw_lD (xs := xs) (xl := xl) (d := d) (h i h1 h2) (by omega)).2
    rw [D_X12_row_118_eq, a2, if_neg (nI_nlt (by omega) (by omega))]
    simp only [nI_cl (show i < 2147483648 by omega), nI_o (show i < 301 by omega) (by omega), if_false, dp_w, nI_1, hl, rb_bi]
    unfold cl at h3
    simp only [decide_eq_false_iff_not] at h3
    by_cases c1 : dp_I M 156 i = v1
    case neg => rw [if_neg c1]; exact hr
    rw [if_pos c1]
    by_cases c2 : dp_I M 157 i = v2
    case neg => rw [if_neg c2]; exact hr
    rw [if_pos c2]
    by_cases c3 : dp_I M 159 i = v5
    case neg => rw [if_neg c3]; exact hr
    rw [if_pos c3]
    by_cases c4 : dp_I M 160 i = v6
    case neg => rw [if_neg c4]; exact hr
    rw [if_pos c4]
    by_cases c5 : v4 < dp_I M 158 i
    · rw [if_pos c5]; exact hr
    rw [if_neg c5]
    by_cases c6 : lD M i < v3
    · rw [if_pos c6]; exact hr
    exact absurd ⟨c1, c2, c3, c4, Int32.not_lt.mp c5, Int32.not_lt.mp c6⟩ h3
  constructor
  · intro j hj1 hj2 hc hn
    refine lpf (F := fun i => D_X12_row_118 xs xl (d + 1) v1 v2 v3 v4 v5 v6 v7 (nI i) M) hj1 (fun i h1 h2 hr => sk i _ h1 (by omega) (hn i h1 h2) hr) ?_
    (try dsimp only)
    have hl := (TRw_lD (xs := xs) (xl := xl) (d := d) (h j hj1 hj2) (by omega)).2
    unfold cl at hc
    simp only [decide_eq_true_eq] at hc
    obtain ⟨c1, c2, c3, c4, c5, c6⟩ := hc
    rw [D_X12_row_118_eq, a2, if_neg (nI_nlt (by omega) (by omega))]
    simp only [nI_cl (show j < 2147483648 by omega), nI_o (show j < 301 by omega) (by omega), if_false, dp_w, nI_1, hl, rb_bi, if_pos c1, if_pos c2, if_pos c3, if_pos c4, if_neg (Int32.not_lt.mpr c5), if_neg (Int32.not_lt.mpr c6)]
  · intro hn
    refine lpf (F := fun i => D_X12_row_118 xs xl (d + 1) v1 v2 v3 v4 v5 v6 v7 (nI i) M) (show 1 ≤ R + 1 by omega) (fun i h1 h2 hr => sk i _ h1 (by omega) (hn i h1 h2) hr) ?_
    (try dsimp only)
    rw [D_X12_row_118_eq, a2, if_pos (nI_lt (by omega) (by omega))]
    simp only [dp_w, nI_1, gII, if_true, uI_s, t_8', nI_cl (show R + 1 < 2147483648 by omega), nI_o (show R + 1 < 301 by omega) (by omega), nI_cl (show (R + 1) * 8 < 2147483648 by omega), nI_o (show (R + 1) * 8 < 2408 by omega) (by omega), if_false, Nat.reduceEqDiff, uI_n (show (67 : Nat) ≠ 55 by decide)]
    unfold mW
    split <;> rfl
end TG
