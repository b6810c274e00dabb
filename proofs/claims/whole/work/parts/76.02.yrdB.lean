-- needs: 75
/-! YARD: moves that are kept -/
theorem q100 : ∀ q, q < 100 → nI (q + 1) - nI (q + 1) / 100 * 100 = nI ((q + 1) % 100) := by decide
theorem q99 : ∀ q, q < 100 → (nI q + 100 - 1) - (nI q + 100 - 1) / 100 * 100 = nI ((q + 99) % 100) := by decide
theorem gD_0 (x : Nat × Int32) (h : List (Nat × Int32)) (d : Nat × Int32) : ((x :: h).take 100).getD 0 d = x := rfl
theorem gD_s {x : Nat × Int32} {h : List (Nat × Int32)} {d : Nat × Int32} {j : Nat} (hj : j + 1 < 100) : ((x :: h).take 100).getD (j + 1) d = h.getD j d := by
  simp only [List.getD_eq_getElem?_getD, List.getElem?_take, if_pos hj, List.getElem?_cons_succ]
theorem ln_t (x : Nat × Int32) (h : List (Nat × Int32)) (hh : h.length ≤ 100) : ((x :: h).take 100).length = if h.length = 100 then 100 else h.length + 1 := by
  rw [List.length_take, List.length_cons]; split <;> omega
theorem Cst.tr0 {M M' M'' : dp_M} (h : Cst 0 0 M M') (h' : Cst 0 0 M' M'') : Cst 0 0 M M'' := by
  have := h.trans h'; exact this
theorem rI_sw {N : dp_M} {k k' i : Nat} {f : Nat → Int32} {x : Int32} (h : k' ≠ k) : dp_setI (rI N k f) k' i x = rI (dp_setI N k' i x) k f := by
  refine Prod.ext (funext fun a => ?_) rfl
  show dp_I (dp_setI (rI N k f) k' i x) a = dp_I (rI (dp_setI N k' i x) k f) a
  rw [gII, rI_I, rI_I, rI_I, gII]
  by_cases e : a = k
  · rw [if_pos e, if_neg (show ¬ a = k' from fun q => h (by rw [← q, e])), if_pos e]
  · rw [if_neg e, if_neg (show ¬ k' = k from h), if_neg e]
section YB
variable {xs : Nat → Int32} {xl d : Nat} {C M : dp_M}
theorem yc_bring {n W H G : Nat} {R L : Nat → Int32} {h : List (Nat × Int32)} {m : Int32} {x : Nat} {f : Int32} {S st : Nat → Int32} (y : CY C n W H G R L h m) (yi : YI n W H G R L h S st) (g : goO n W H R L x f) : ∃ C', dp_den true xs xl (d + 2) 246 [.ref 28, .int (nI x), .int f] C = vR C' ∧ CY C' n W H G (uI R x f) (goL n R L x f) (((x, R x) :: h).take 100) (m + 1) ∧ Off CY_S [] C C' ∧ Cst 0 0 C C' := by
  have y0 := y
  obtain ⟨i1, i2, i3, i4, i5, i6, i7, i8, i9, -⟩ := yi
  obtain ⟨a1, a2, a3, a4, a5, a6, a7, a8, a9, a10, a11, a12, a13, q, q1, q2, q3⟩ := y
  have g1 := g.1
  obtain ⟨K, hK⟩ : ∃ K, K = if h.length = 100 then 100 else h.length + 1 := ⟨_, rfl⟩
  obtain ⟨C5, h5⟩ : ∃ C5, C5 = dp_setI (dp_setI (dp_setI (dp_setI (dp_setI C 31 q (nI x)) 32 q (R x)) 28 12 (nI ((q + 1) % 100))) 28 13 (nI K)) 28 14 (m + 1) := ⟨_, rfl⟩
  have o5 : Off CY_S [] C C5 := by rw [h5]; exact (((((Off.rr _ _ C).I 31 (by decide) _ _).I 32 (by decide) _ _).I 28 (by decide) _ _).I 28 (by decide) _ _).I 28 (by decide) _ _
  have z5 : Cst 0 0 C C5 := by rw [h5]; exact ⟨Nat.le_refl _, Nat.le_refl _⟩
  have y5 : CY C5 n W H G R L (((x, R x) :: h).take 100) (m + 1) := by
    have e : ∀ k, k ≠ 28 → k ≠ 31 → k ≠ 32 → dp_I C5 k = dp_I C k := fun k h1 h2 h3 => by
      rw [h5]; simp only [gII, if_neg h1, if_neg h2, if_neg h3]
    have e28 : dp_I C5 28 = uI (uI (uI (dp_I C 28) 12 (nI ((q + 1) % 100))) 13 (nI K)) 14 (m + 1) := by
      rw [h5]; simp only [gII, Nat.reduceEqDiff, if_false, if_true]
    have e31 : dp_I C5 31 = uI (dp_I C 31) q (nI x) := by
      rw [h5]; simp only [gII, Nat.reduceEqDiff, if_false, if_true]
    have e32 : dp_I C5 32 = uI (dp_I C 32) q (R x) := by
      rw [h5]; simp only [gII, Nat.reduceEqDiff, if_false, if_true]
    have el : dp_len C5 = dp_len C := by rw [h5]; rfl
    unfold CY
    rw [e28, e31, e32, e 29 (by decide) (by decide) (by decide), e 30 (by decide) (by decide) (by decide), e 33 (by decide) (by decide) (by decide), e 36 (by decide) (by decide) (by decide), el, ln_t _ _ i8, ← hK]
    refine ⟨?_, ?_, ?_, a4, a5, a6, a7, a8, a9, a10, a11, ?_, uI_s _ _ _, (q + 1) % 100, Nat.mod_lt _ (by omega), ?_, fun j hj => ?_⟩
    · rw [uI_n (by decide), uI_n (by decide), uI_n (by decide)]; exact a1
    · rw [uI_n (by decide), uI_n (by decide), uI_n (by decide)]; exact a2
    · rw [uI_n (by decide), uI_n (by decide), uI_n (by decide)]; exact a3
    · rw [uI_n (by decide), uI_s]
    · rw [uI_n (by decide), uI_n (by decide), uI_s]
    · cases j with
      | zero =>
        rw [gD_0, show ((q + 1) % 100 + 99 - 0) % 100 = q by omega, uI_s, uI_s]
        exact ⟨rfl, rfl⟩
      | succ j =>
        have hj100 : j + 1 < 100 ∧ j < h.length := by rw [hK] at hj; split at hj <;> omega
        rw [gD_s hj100.1, show ((q + 1) % 100 + 99 - (j + 1)) % 100 = (q + 99 - j) % 100 by omega, uI_n (by omega), uI_n (by omega)]
        exact q3 j hj100.2
  obtain ⟨C', c1, c2, c3, c4⟩ := yc_place (xs := xs) (xl := xl) (d := d) y5 i9 i7 i2 i4 g
  refine ⟨C', ?_, c2, o5.tr (c3.mono (by decide) (by decide)), z5.tr0 c4⟩
  rw [D_X10_bring_0_den, D_X10_bring_0_eq]
  have em : (if (100 : Int32) < nI (h.length + 1) then (100 : Int32) else nI (h.length + 1)) = nI K := by
    rw [hK]
    by_cases z : h.length = 100
    · rw [if_pos z, if_pos (show (100 : Int32) < nI (h.length + 1) by rw [z]; decide)]; rfl
    · rw [if_neg z, if_neg]
      intro w
      rw [Int32.lt_iff_toInt_lt, nI_toInt (by omega)] at w
      have : (100 : Int32).toInt = 100 := by decide
      omega
  simp only [q2, nI_cl (show q < 2147483648 by omega), nI_o q1 (by omega), nI_cl (show x < 2147483648 by omega), nI_o (show x < 100 by omega) (by omega), if_false, dp_w, gII, Nat.reduceEqDiff, if_true, (a8 x g1).1, nI_1, q100 q q1, uI_n (show (13 : Nat) ≠ 12 by decide), a12, em, uI_n (show (14 : Nat) ≠ 13 by decide), uI_n (show (14 : Nat) ≠ 12 by decide), a13]
  rw [← h5, c1, rb_bv]
theorem yc_back0 {n W H G : Nat} {R L : Nat → Int32} {m : Int32} (y : CY C n W H G R L [] m) : dp_den true xs xl (d + 2) 247 [.ref 28] C = iR (-1) C := by
  obtain ⟨a1, a2, a3, a4, a5, a6, a7, a8, a9, a10, a11, a12, -⟩ := y
  rw [D_X10_takeBack_0_den, D_X10_takeBack_0_eq]
  simp only [dp_w]
  rw [if_pos (show dp_I C 28 13 = 0 from a12)]
theorem yc_back {n W H G : Nat} {R L : Nat → Int32} {h : List (Nat × Int32)} {m : Int32} {x : Nat} {f : Int32} {S : Nat → Int32} (y : CY C n W H G R L ((x, f) :: h) m) (yi : YI n W H G R L ((x, f) :: h) S (dp_I C 11)) : (¬ dp_I C 11 x = 0 → dp_den true xs xl (d + 2) 247 [.ref 28] C = iR (-1) C) ∧ (dp_I C 11 x = 0 → ∃ C', dp_den true xs xl (d + 2) 247 [.ref 28] C = iR (nI x) C' ∧ CY C' n W H G (uI R x f) (goL n R L x f) h (m - 1) ∧ Off CY_S [] C C' ∧ Cst 0 0 C C') := by
  obtain ⟨i1, i2, i3, i4, i5, i6, i7, i8, i9, i10, i11, i12⟩ := yi
  obtain ⟨a1, a2, a3, a4, a5, a6, a7, a8, a9, a10, a11, a12, a13, q, q1, q2, q3⟩ := y
  have g := i10.1
  have g1 := g.1
  rw [List.length_cons] at i8
  obtain ⟨p1, p2⟩ := q3 0 (by rw [List.length_cons]; omega)
  have p1' : dp_I C 31 ((q + 99) % 100) = nI x := p1
  have p2' : dp_I C 32 ((q + 99) % 100) = f := p2
  have a12' : dp_I C 28 13 = nI (h.length + 1) := a12
  have lt : (q + 99) % 100 < 100 := Nat.mod_lt _ (by omega)
  refine ⟨fun hs => ?_, fun hs => ?_⟩
  · rw [D_X10_takeBack_0_den, D_X10_takeBack_0_eq]
    simp only [dp_w, q2, q99 q q1, a12', nI_cl (show (q + 99) % 100 < 2147483648 by omega), nI_o lt (by omega), if_false, p1', nI_cl (show x < 2147483648 by omega), nI_o (show x < 100 by omega) (by omega)]
    rw [if_neg (show ¬ nI (h.length + 1) = (0 : Int32) from fun e => absurd ((nI_eq (a := h.length + 1) (b := 0) (by omega) (by omega)).mp e) (by omega)), if_neg hs]
  · obtain ⟨C4, h4⟩ : ∃ C4, C4 = dp_setI (dp_setI (dp_setI C 28 12 (nI ((q + 99) % 100))) 28 13 (nI h.length)) 28 14 (m - 1) := ⟨_, rfl⟩
    have o4 : Off CY_S [] C C4 := by rw [h4]; exact (((Off.rr _ _ C).I 28 (by decide) _ _).I 28 (by decide) _ _).I 28 (by decide) _ _
    have z4 : Cst 0 0 C C4 := by rw [h4]; exact ⟨Nat.le_refl _, Nat.le_refl _⟩
    have e : ∀ k, k ≠ 28 → dp_I C4 k = dp_I C k := fun k h1 => by
      rw [h4]; simp only [gII, if_neg h1]
    have y4 : CY C4 n W H G R L h (m - 1) := by
      have e28 : dp_I C4 28 = uI (uI (uI (dp_I C 28) 12 (nI ((q + 99) % 100))) 13 (nI h.length)) 14 (m - 1) := by
        rw [h4]; simp only [gII, Nat.reduceEqDiff, if_false, if_true]
      have el : dp_len C4 = dp_len C := by rw [h4]; rfl
      unfold CY
      rw [e28, e 29 (by decide), e 30 (by decide), e 31 (by decide), e 32 (by decide), e 33 (by decide), e 36 (by decide), el]
      refine ⟨?_, ?_, ?_, a4, a5, a6, a7, a8, a9, a10, a11, ?_, uI_s _ _ _, (q + 99) % 100, lt, ?_, fun j hj => ?_⟩
      · rw [uI_n (by decide), uI_n (by decide), uI_n (by decide)]; exact a1
      · rw [uI_n (by decide), uI_n (by decide), uI_n (by decide)]; exact a2
      · rw [uI_n (by decide), uI_n (by decide), uI_n (by decide)]; exact a3
      · rw [uI_n (by decide), uI_s]
      · rw [uI_n (by decide), uI_n (by decide), uI_s]
      · have := q3 (j + 1) (by rw [List.length_cons]; omega)
        rw [show (q + 99 - (j + 1)) % 100 = ((q + 99) % 100 + 99 - j) % 100 by omega] at this
        exact this
    obtain ⟨C', c1, c2, c3, c4⟩ := yc_place (xs := xs) (xl := xl) (d := d) y4 i9 i7 i2 i4 g
    refine ⟨C', ?_, c2, o4.tr (c3.mono (by decide) (by decide)), z4.tr0 c4⟩
    rw [D_X10_takeBack_0_den, D_X10_takeBack_0_eq]
    simp only [dp_w, q2, q99 q q1, a12', nI_cl (show (q + 99) % 100 < 2147483648 by omega), nI_o lt (by omega), if_false, p1', nI_cl (show x < 2147483648 by omega), nI_o (show x < 100 by omega) (by omega), gII, Nat.reduceEqDiff, if_true, uI_n (show (13 : Nat) ≠ 12 by decide), uI_n (show (14 : Nat) ≠ 13 by decide), uI_n (show (14 : Nat) ≠ 12 by decide), nI_pred, a13, p2']
    rw [if_neg (show ¬ nI (h.length + 1) = (0 : Int32) from fun e => absurd ((nI_eq (a := h.length + 1) (b := 0) (by omega) (by omega)).mp e) (by omega)), if_pos hs, ← h4, c1, rb_bv]
    have : dp_I C' 31 = dp_I C4 31 := (c3.1 31 (by decide) (by decide) (by decide)).1
    rw [this, e 31 (by decide), p1']
/-- the model -/
theorem ym_hgt {n : Nat} (h : dp_I M 114 3 = nI n) (hn : n ≤ 100) (v1 : Int32) : dp_den true xs xl (d + 1) 396 [.ref 114, .int v1] M = iR (nI (ct (rwf (dp_I M 140) v1) n)) M := by
  rw [D_X12_heightOf_0_den, D_X12_heightOf_0_eq]
  simp only [dp_w]
  refine lpb (F := fun (a : Nat) i => D_X12_heightOf_4 xs xl d v1 (nI a) (nI i) M) (s := ct (rwf (dp_I M 140) v1)) (N := n) ?_ (fun i hi hr => ?_)
  · (try dsimp only)
    rw [D_X12_heightOf_4_eq, h, if_pos (nI_lle (Nat.le_refl _) (by omega))]
  · (try dsimp only at hr); (try dsimp only)
    rw [ct] at hr
    rw [D_X12_heightOf_4_eq, h, if_neg (nI_nge hi (by omega))]
    simp only [nI_cl (show i < 2147483648 by omega), nI_o (show i < 100 by omega) (by omega), if_false, dp_w, nI_1, Int32.add_zero]
    by_cases z : dp_I M 140 i = v1
    · rw [if_pos (rwf_t.mpr z)] at hr
      rw [if_pos z]; exact hr
    · rw [if_neg (fun q => z (rwf_t.mp q))] at hr
      rw [if_neg z]; exact hr
theorem ym_stands {n x : Nat} {f : Int32} {R L : Nat → Int32} (h3 : dp_I M 114 3 = nI n) (hn : n ≤ 100) (hx : x < n) (hf : f = -1 ∨ ∃ r, r < 20 ∧ f = nI r) (e1 : ∀ i, i < n → i ≠ x → dp_I M 140 i = R i) (e2 : dp_I M 140 x = -1 ∨ ¬ dp_I M 140 x = f ∨ f = -1) (e3 : ∀ i, i < n → dp_I M 141 i = L i) : ∃ M', dp_den true xs xl (d + 2) 408 [.ref 114, .int (nI x), .int f] M = vR M' ∧ (∀ i, i < n → dp_I M' 140 i = uI R x f i ∧ dp_I M' 141 i = goL n R L x f i) ∧ Off [140, 141] [] M M' ∧ Cst 0 0 M M' := by
  rcases hf with e | ⟨r, hr, e⟩
  · refine ⟨dp_setI (dp_setI M 141 x (-1)) 140 x f, ?_, fun i hi => ?_, ((Off.rr _ _ M).I 141 (by decide) _ _).I 140 (by decide) _ _, ⟨Nat.le_refl _, Nat.le_refl _⟩⟩
    · rw [D_X12_stands_0_den, D_X12_stands_0_eq]
      rw [if_neg (show ¬ (0 : Int32) ≤ f by rw [e]; decide)]
      simp only [dp_w, nI_cl (show x < 2147483648 by omega), nI_o (show x < 100 by omega) (by omega), if_false]
    · simp only [gII, Nat.reduceEqDiff, if_false, if_true]
      unfold goL
      rw [if_pos e]
      by_cases z : i = x
      · subst z; rw [uI_s, uI_s, uI_s, uI_s]; exact ⟨rfl, rfl⟩
      · rw [uI_n z, uI_n z, uI_n z, uI_n z]; exact ⟨e1 i hi z, e3 i hi⟩
  · have hc : ct (rwf (dp_I M 140) f) n = ct (rwf (uI R x (-1)) f) n := ct_c (fun i hi => by
      unfold rwf
      by_cases z : i = x
      · subst z
        rw [uI_s, e]
        have n1 : ¬ (-1 : Int32) = nI r := fun q => m1_ne (r := r) (by omega) q.symm
        rcases e2 with q | q | q
        · rw [q]
        · rw [e] at q; simp [q, n1]
        · rw [e] at q; exact absurd q (m1_ne (by omega))
      · rw [uI_n z, e1 i hi z])
    refine ⟨dp_setI (dp_setI M 141 x (nI (ct (rwf (uI R x (-1)) f) n))) 140 x f, ?_, fun i hi => ?_, ((Off.rr _ _ M).I 141 (by decide) _ _).I 140 (by decide) _ _, ⟨Nat.le_refl _, Nat.le_refl _⟩⟩
    · rw [D_X12_stands_0_den, D_X12_stands_0_eq, if_pos (show (0 : Int32) ≤ f by rw [e]; exact nI_le (a := 0) (b := r) (by omega) (by omega)), ym_hgt h3 hn, rb_bi, hc]
      simp only [dp_w, nI_cl (show x < 2147483648 by omega), nI_o (show x < 100 by omega) (by omega), if_false]
    · simp only [gII, Nat.reduceEqDiff, if_false, if_true]
      unfold goL
      rw [if_neg (show ¬ f = -1 by rw [e]; exact m1_ne (by omega))]
      by_cases z : i = x
      · subst z; rw [uI_s, uI_s, uI_s, uI_s]; exact ⟨rfl, rfl⟩
      · rw [uI_n z, uI_n z, uI_n z, uI_n z]; exact ⟨e1 i hi z, e3 i hi⟩
def shl (B : Nat → Int32) (k : Nat) : Nat → Int32 := fun i => if i + 1 < k then B (i + 1) else B i
theorem shl_s (B : Nat → Int32) (k : Nat) : uI (shl B (k + 1)) k (shl B (k + 1) (k + 1)) = shl B (k + 2) := by
  funext i; unfold uI shl
  by_cases z : i = k
  · rw [if_pos z, if_neg (by omega), if_pos (by omega), z]
  · rw [if_neg z]
    by_cases y : i + 1 < k + 1
    · rw [if_pos y, if_pos (by omega)]
    · rw [if_neg y, if_neg (by omega)]
theorem ym_goes {n W H G : Nat} {R L : Nat → Int32} {h : List (Nat × Int32)} {m : Int32} {x : Nat} {f : Int32} (y : MY M n W H G R L h m) (h3 : dp_I M 114 3 = nI n) (hn : n ≤ 100) (hW : W ≤ 20) (hh : h.length ≤ 100) (g : goO n W H R L x f) (hne : f = -1 ∨ ¬ R x = f) : ∃ M', dp_den true xs xl (d + 3) 409 [.ref 114, .int (nI x), .int f] M = vR M' ∧ MY M' n W H G (uI R x f) (goL n R L x f) (((x, R x) :: h).take 100) (m + 1) ∧ Off MY_S MY_T M M' ∧ Cst 0 0 M M' := by
  obtain ⟨a1, a2, a3, a4, a5, a6, a7⟩ := y
  have g1 := g.1
  have hf : f = -1 ∨ ∃ r, r < 20 ∧ f = nI r := g.2.2.elim Or.inl (fun ⟨r, h1, h2, _⟩ => Or.inr ⟨r, by omega, h2⟩)
  obtain ⟨K0, hK0⟩ : ∃ K0, K0 = if h.length = 100 then 99 else h.length := ⟨_, rfl⟩
  have hK : K0 < 100 := by rw [hK0]; split <;> omega
  obtain ⟨M1, b1, b2, b3, b4, b5, b6, b7⟩ : ∃ M1 : dp_M, (∀ r, D_X12_goesTo_61 xs xl (d + 2) (nI x) f M1 = some r → dp_den true xs xl (d + 3) 409 [.ref 114, .int (nI x), .int f] M = some r) ∧ dp_I M1 114 38 = nI K0 ∧ (∀ i, i ≠ 38 → dp_I M1 114 i = dp_I M 114 i) ∧ (∀ k, k ≠ 114 → k ≠ 142 → k ≠ 143 → dp_I M1 k = dp_I M k) ∧ (∀ j, j + 1 < 100 → j < h.length → dp_I M1 142 (K0 - 1 - j) = nI (h.getD j (0, 0)).1 ∧ dp_I M1 143 (K0 - 1 - j) = (h.getD j (0, 0)).2) ∧ Off MY_S MY_T M M1 ∧ Cst 0 0 M M1 := by
    by_cases z : h.length = 100
    · refine ⟨dp_setI (rI (rI M 142 (shl (dp_I M 142) 100)) 143 (shl (dp_I M 143) 100)) 114 38 (nI 99), fun r hr => ?_, ?_, fun i hi => ?_, fun k h1 h2 h4 => ?_, fun j j1 j2 => ?_, ?_, ⟨Nat.le_refl _, Nat.le_refl _⟩⟩
      · rw [D_X12_goesTo_0_den, D_X12_goesTo_0_eq, a5, z, if_pos (by rfl)]
        simp only [dp_w]
        have key := lpb (F := fun (N : dp_M) i => D_X12_goesTo_11 xs xl (d + 2) (nI x) f (nI (i + 1)) N) (s := fun i => rI (rI M 142 (shl (dp_I M 142) (i + 1))) 143 (shl (dp_I M 143) (i + 1))) (N := 99) (r := r) ?_ (fun i hi hr2 => ?_)
        · (try dsimp only at key)
          have e0 : ∀ B : Nat → Int32, shl B (0 + 1) = B := fun B => by funext i; unfold shl; rw [if_neg (by omega)]
          rw [e0, e0, rI_id] at key
          rw [show dp_I M 143 = dp_I M 143 from rfl] at key
          rw [rI_id] at key
          exact key
        · (try dsimp only)
          rw [D_X12_goesTo_11_eq, if_pos (by decide)]
          simp only [dp_w, rI_I, Nat.reduceEqDiff, if_false, a5, z]
          apply D_X12_goesTo_61_to_61_a
          exact hr
        · (try dsimp only at hr2); (try dsimp only)
          rw [D_X12_goesTo_11_eq, if_neg (show ¬ (100 : Int32) ≤ nI (i + 1) from nI_ge (a := i + 1) (b := 100) (by omega) (by omega)), nI_pred]
          simp only [nI_cl (show i < 2147483648 by omega), nI_o (show i < 100 by omega) (by omega), nI_cl (show i + 1 < 2147483648 by omega), nI_o (show i + 1 < 100 by omega) (by omega), if_false, dp_w, nI_1, rI_I, Nat.reduceEqDiff, if_true, rI_set, rI_sw (show (142 : Nat) ≠ 143 by decide), shl_s]
          exact hr2
      · rw [hK0, if_pos z, gII, if_pos rfl, uI_s]
      · rw [gII, if_pos rfl, uI_n hi, rI_I, if_neg (by decide), rI_I, if_neg (by decide)]
      · rw [gII, if_neg h1, rI_I, if_neg h4, rI_I, if_neg h2]
      · rw [hK0, if_pos z]
        simp only [gII, rI_I, Nat.reduceEqDiff, if_false, if_true]
        unfold shl
        rw [if_pos (by omega), if_pos (by omega)]
        have := a7 j j2
        rw [z, show 100 - 1 - j = 99 - 1 - j + 1 by omega] at this
        exact this
      · exact ((((Off.rr _ _ M).rI 142 (by decide) _).rI 143 (by decide) _).F 38 (by decide) _)
    · refine ⟨M, fun r hr => ?_, by rw [hK0, if_neg z]; exact a5, fun _ _ => rfl, fun _ _ _ _ => rfl, fun j _ j2 => by rw [hK0, if_neg z]; exact a7 j j2, Off.rr _ _ _, Cst.r _⟩
      rw [D_X12_goesTo_0_den, D_X12_goesTo_0_eq, a5, if_neg (show ¬ nI (h.length) = (100 : Int32) from fun e => absurd ((nI_eq (a := h.length) (b := 100) (by omega) (by omega)).mp e) (by omega))]; exact hr
  obtain ⟨M4, h4⟩ : ∃ M4, M4 = dp_setI (dp_setI (dp_setI (dp_setI M1 142 K0 (nI x)) 143 K0 (R x)) 114 38 (nI (K0 + 1))) 114 37 (m + 1) := ⟨_, rfl⟩
  have r140 : dp_I M4 140 = dp_I M 140 := by rw [h4]; simp only [gII, Nat.reduceEqDiff, if_false]; exact b4 140 (by decide) (by decide) (by decide)
  have r141 : dp_I M4 141 = dp_I M 141 := by rw [h4]; simp only [gII, Nat.reduceEqDiff, if_false]; exact b4 141 (by decide) (by decide) (by decide)
  have f4 : ∀ i, i ≠ 37 → i ≠ 38 → dp_I M4 114 i = dp_I M 114 i := fun i h1 h2 => by rw [h4]; simp only [gII, Nat.reduceEqDiff, if_false, if_true, uI_n h1, uI_n h2]; exact b3 i h2
  obtain ⟨M', c1, c2, c3, c4⟩ := ym_stands (xs := xs) (xl := xl) (d := d) (M := M4) (f := f) (R := R) (L := L) (by rw [f4 3 (by decide) (by decide)]; exact h3) hn g1 hf (fun i hi _ => by rw [r140]; exact (a4 i hi).1) (by rw [r140, (a4 x g1).1]; exact Or.inr (hne.elim Or.inr Or.inl)) (fun i hi => by rw [r141]; exact (a4 i hi).2)
  have o4 : Off MY_S MY_T M M4 := by rw [h4]; exact (((b6.I 142 (by decide) _ _).I 143 (by decide) _ _).F 38 (by decide) _).F 37 (by decide) _
  refine ⟨M', b1 _ ?_, ?_, o4.tr (c3.mono (by decide) (by decide)), Cst.tr0 (by rw [h4]; exact b7) c4⟩
  · rw [D_X12_goesTo_61_eq]
    have k140 : dp_I M1 140 x = R x := by rw [b4 140 (by decide) (by decide) (by decide)]; exact (a4 x g1).1
    simp only [b2, nI_cl (show K0 < 2147483648 by omega), nI_o hK (by omega), nI_cl (show x < 2147483648 by omega), nI_o (show x < 100 by omega) (by omega), if_false, dp_w, gII, Nat.reduceEqDiff, if_true, nI_1, uI_n (show (37 : Nat) ≠ 38 by decide), k140, show dp_I M1 114 37 = m from by rw [b3 37 (by decide)]; exact a6]
    rw [← h4, c1, rb_bv]
  · have e114 : dp_I M' 114 = dp_I M4 114 := by
      funext i
      exact ((c3.mono (S' := [140, 141]) (T' := []) (by simp) (by simp)).2.1 i (by simp)).1
    have e142 : dp_I M' 142 = dp_I M4 142 := (c3.1 142 (by decide) (by decide) (by decide)).1
    have e143 : dp_I M' 143 = dp_I M4 143 := (c3.1 143 (by decide) (by decide) (by decide)).1
    have w142 : dp_I M4 142 = uI (dp_I M1 142) K0 (nI x) := by rw [h4]; simp only [gII, Nat.reduceEqDiff, if_false, if_true]
    have w143 : dp_I M4 143 = uI (dp_I M1 143) K0 (R x) := by rw [h4]; simp only [gII, Nat.reduceEqDiff, if_false, if_true]
    have ln := ln_t (x, R x) h hh
    have lk : (((x, R x) :: h).take 100).length = K0 + 1 := by rw [ln, hK0]; split <;> rfl
    unfold MY
    rw [e114, e142, e143, w142, w143, lk]
    refine ⟨by rw [f4 25 (by decide) (by decide)]; exact a1, by rw [f4 26 (by decide) (by decide)]; exact a2, by rw [f4 27 (by decide) (by decide)]; exact a3, c2, ?_, ?_, fun j hj => ?_⟩
    · rw [h4]; simp only [gII, Nat.reduceEqDiff, if_false, if_true, uI_n (show (38 : Nat) ≠ 37 by decide), uI_s]
    · rw [h4]; simp only [gII, Nat.reduceEqDiff, if_false, if_true, uI_s]
    · cases j with
      | zero =>
        rw [gD_0, show K0 + 1 - 1 - 0 = K0 by omega, uI_s, uI_s]; exact ⟨rfl, rfl⟩
      | succ j =>
        have hj2 : j < h.length := by rw [hK0] at hj; split at hj <;> omega
        rw [gD_s (by omega), show K0 + 1 - 1 - (j + 1) = K0 - 1 - j by omega, uI_n (by omega), uI_n (by omega)]
        exact b5 j (by omega) hj2
end YB
