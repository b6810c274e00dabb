-- needs: 75
/-! YARD: a night -/
def bvf (ok : Nat → Bool) (sc : Nat → Int32) : Nat → Int32
  | 0 => -1
  | i + 1 => if ok i = true then (if bvf ok sc i = -1 then nI i else if sc i ≤ sc (bvf ok sc i).toNatClampNeg then bvf ok sc i else nI i) else bvf ok sc i
theorem bvf_b {ok : Nat → Bool} {sc : Nat → Int32} : ∀ i, i < 2147483648 → bsV ok sc 0 i (bvf ok sc i)
  | 0, _ => Or.inl ⟨rfl, fun k _ q => by omega⟩
  | i + 1, h => by rw [bvf]; exact bsV_up (by omega) (bvf_b i (by omega))
/-- the best clear row; those sooner below; the box to be tidied -/
def clv (n W H G : Nat) (wt sz sp kd gd rs lv : Nat → Int32) (R L : Nat → Int32) (x : Nat) : Int32 := bvf (ok2 n H G R L wt sz sp kd gd rs lv x) (scr n R L wt lv sp rs x) W
def sbw (n : Nat) (lv R L : Nat → Int32) (x : Nat) : Int32 := if R x = -1 then 0 else nI (ct (sof R L lv (R x) (L x) x) n)
def wst (n W H G : Nat) (wt sz sp kd gd rs lv : Nat → Int32) (R L : Nat → Int32) : Nat → Int32 × Int32
  | 0 => (-1, 0)
  | r + 1 => if tpR R L n r = -1 ∨ sbw n lv R L (tpR R L n r).toNatClampNeg ≤ (wst n W H G wt sz sp kd gd rs lv R L r).2 ∨ clv n W H G wt sz sp kd gd rs lv R L (tpR R L n r).toNatClampNeg = -1 then wst n W H G wt sz sp kd gd rs lv R L r else (tpR R L n r, sbw n lv R L (tpR R L n r).toNatClampNeg)
def ngt (n W H G : Nat) (wt sz sp kd gd rs lv : Nat → Int32) : Nat → (Nat → Int32) → (Nat → Int32) → List (Nat × Int32) → Int32 → Nat × (Nat → Int32) × (Nat → Int32) × List (Nat × Int32) × Int32
  | 0, R, L, h, m => (0, R, L, h, m)
  | f + 1, R, L, h, m => if (wst n W H G wt sz sp kd gd rs lv R L W).1 = -1 then (0, R, L, h, m) else
    ((ngt n W H G wt sz sp kd gd rs lv f (uI R (wst n W H G wt sz sp kd gd rs lv R L W).1.toNatClampNeg (clv n W H G wt sz sp kd gd rs lv R L (wst n W H G wt sz sp kd gd rs lv R L W).1.toNatClampNeg)) (goL n R L (wst n W H G wt sz sp kd gd rs lv R L W).1.toNatClampNeg (clv n W H G wt sz sp kd gd rs lv R L (wst n W H G wt sz sp kd gd rs lv R L W).1.toNatClampNeg)) ((((wst n W H G wt sz sp kd gd rs lv R L W).1.toNatClampNeg, R (wst n W H G wt sz sp kd gd rs lv R L W).1.toNatClampNeg) :: h).take 100) (m + 1)).1 + 1,
     (ngt n W H G wt sz sp kd gd rs lv f (uI R (wst n W H G wt sz sp kd gd rs lv R L W).1.toNatClampNeg (clv n W H G wt sz sp kd gd rs lv R L (wst n W H G wt sz sp kd gd rs lv R L W).1.toNatClampNeg)) (goL n R L (wst n W H G wt sz sp kd gd rs lv R L W).1.toNatClampNeg (clv n W H G wt sz sp kd gd rs lv R L (wst n W H G wt sz sp kd gd rs lv R L W).1.toNatClampNeg)) ((((wst n W H G wt sz sp kd gd rs lv R L W).1.toNatClampNeg, R (wst n W H G wt sz sp kd gd rs lv R L W).1.toNatClampNeg) :: h).take 100) (m + 1)).2)
theorem ngt_le {n W H G : Nat} {wt sz sp kd gd rs lv : Nat → Int32} : ∀ f R L h m, (ngt n W H G wt sz sp kd gd rs lv f R L h m).1 ≤ f
  | 0, _, _, _, _ => Nat.le_refl _
  | f + 1, R, L, h, m => by
    rw [ngt]
    split
    · exact Nat.zero_le _
    · exact Nat.succ_le_succ (ngt_le f _ _ _ _)
theorem ok2_c {n H G : Nat} {R L wt sz sp kd gd rs gd' rs' lv : Nat → Int32} {x r : Nat} (h1 : gd' r = gd r) (h2 : rs' r = rs r) : ok2 n H G R L wt sz sp kd gd' rs' lv x r = ok2 n H G R L wt sz sp kd gd rs lv x r := by
  unfold ok2 brk; rw [h1, h2]
/-- what is to be tidied stands on top and has a clear row -/
theorem wst_ok {n W H G : Nat} {wt sz sp kd gd rs lv R L : Nat → Int32} (w : YW n W H R L) (hn : n ≤ 100) (hW : W ≤ 20) (lvl : ∀ r, r < W → ∀ l, l < hR R n r → ∃ i, i < n ∧ R i = nI r ∧ L i = nI l) : ∀ r, r ≤ W → (wst n W H G wt sz sp kd gd rs lv R L r).1 = -1 ∨ ∃ i, i < n ∧ (wst n W H G wt sz sp kd gd rs lv R L r).1 = nI i ∧ tpd R L n i ∧ ¬ clv n W H G wt sz sp kd gd rs lv R L i = -1
  | 0, _ => Or.inl rfl
  | r + 1, hr => by
    rw [wst]
    split
    · exact wst_ok w hn hW lvl r (by omega)
    · rename_i z
      have hle : hR R n r ≤ n := ct_le _ _
      have h0 : 0 < hR R n r := Nat.pos_of_ne_zero (fun q => z (Or.inl (tp_0 w hW (by omega) q)))
      obtain ⟨i, i1, i2, i3, i4⟩ := tp_ex w hn hW (by omega) h0 (lvl r (by omega))
      refine Or.inr ⟨i, i1, i2, ⟨by rw [i3]; exact m1_ne (by omega), ?_⟩, fun q => z (Or.inr (Or.inr (by rw [i2, nI_cl (by omega)]; exact q)))⟩
      rw [i4, i3]
      obtain ⟨k, hk⟩ : ∃ k, hR R n r = k + 1 := ⟨hR R n r - 1, by omega⟩
      have : ct (rwf R (nI r)) n = hR R n r := rfl
      rw [this, hk, nI_pred, Nat.add_sub_cancel]
theorem clv_go {n W H G : Nat} {wt sz sp kd gd rs lv R L : Nat → Int32} (w : YW n W H R L) (hW : W ≤ 20) {x : Nat} (hx : x < n) (ht : tpd R L n x) (hc : ¬ clv n W H G wt sz sp kd gd rs lv R L x = -1) : goO n W H R L x (clv n W H G wt sz sp kd gd rs lv R L x) ∧ ¬ R x = clv n W H G wt sz sp kd gd rs lv R L x := by
  obtain ⟨r, e, -, r2, r3⟩ := (bsV_ok (bvf_b (ok := ok2 n H G R L wt sz sp kd gd rs lv x) (sc := scr n R L wt lv sp rs x) W (by omega))).resolve_left hc
  obtain ⟨p1, p2, p3⟩ := ok2_t.mp r3
  have e' : clv n W H G wt sz sp kd gd rs lv R L x = nI r := e
  exact ⟨goO.of1 w hx hW ht (Or.inr ⟨r, r2, e', (brk_0 p2).1⟩), by rw [e']; exact p1⟩
section YI1
variable {xs : Nat → Int32} {xl d : Nat} {C M : dp_M}
theorem yc_sbw {n W H G : Nat} {R L : Nat → Int32} {h : List (Nat × Int32)} {m : Int32} (y : CY C n W H G R L h m) (w : YW n W H R L) (hn : n ≤ 100) {x : Nat} (hx : x < n) (hW : W ≤ 20) (hH : H ≤ 8) : dp_den true xs xl (d + 3) 234 [.ref 28, .int (nI x)] C = iR (sbw n (dp_I C 6) R L x) C := by
  have y' := y
  obtain ⟨a1, a2, a3, a4, a5, a6, a7, a8, a9, a10, a11, -⟩ := y'
  rw [D_X10_soonerBelow_0_den, D_X10_soonerBelow_0_eq]
  simp only [nI_cl (show x < 2147483648 by omega), nI_o (show x < 100 by omega) (by omega), if_false, (a8 x hx).1, (a8 x hx).2]
  unfold sbw
  by_cases z : R x = -1
  · rw [if_pos z, if_pos z]
  · obtain ⟨r, l, q1, q2, q3, q4⟩ := w.row hx z
    rw [if_neg z, if_neg z, q3, q4, yc_soo y w hn q1 hW hH (by omega) hx, rb_bi]
theorem yc_clr {n W H G : Nat} {R L : Nat → Int32} {h : List (Nat × Int32)} {m : Int32} (y : CY C n W H G R L h m) (w : YW n W H R L) (hn : n ≤ 100) {x : Nat} (hx : x < n) (hW : W ≤ 20) (hH : H ≤ 8) (hG : G ≤ 400) (hwt : ∀ i, i < n → wi (dp_I C 5 i) 1 40) (hh : dp_I C 9 x = 3 ∧ dp_I C 11 x = 0) : dp_den true xs xl (d + 5) 243 [.ref 28, .int (nI x)] C = iR (clv n W H G (dp_I C 5) (dp_I C 4) (dp_I C 7) (dp_I C 3) (dp_I C 34) (dp_I C 35) (dp_I C 6) R L x) C := by
  obtain ⟨v, v1, v2⟩ := yc_clear (xs := xs) (xl := xl) (d := d) y w hn hx hW hH hG hwt hh
  rw [v1, bsV_u v2 (bvf_b W (by omega))]; rfl
theorem yc_wst {n W H G : Nat} {R L : Nat → Int32} {h : List (Nat × Int32)} {m : Int32} (y : CY C n W H G R L h m) (yi : YI n W H G R L h (dp_I C 9) (dp_I C 11)) (hwt : ∀ i, i < n → wi (dp_I C 5 i) 1 40) : dp_den true xs xl (d + 6) 245 [.ref 28] C = iR (wst n W H G (dp_I C 5) (dp_I C 4) (dp_I C 7) (dp_I C 3) (dp_I C 34) (dp_I C 35) (dp_I C 6) R L W).1 C := by
  obtain ⟨i1, i2, i3, i4, i5, i6, i7, i8, w, i10, i11, i12⟩ := yi
  have a1 := y.1
  rw [D_X10_boxToTidy_0_den, D_X10_boxToTidy_0_eq]
  simp only [dp_w]
  refine lpb (F := fun (s : Int32 × Int32) r => D_X10_boxToTidy_6 xs xl (d + 5) s.1 s.2 (nI r) C) (s := wst n W H G (dp_I C 5) (dp_I C 4) (dp_I C 7) (dp_I C 3) (dp_I C 34) (dp_I C 35) (dp_I C 6) R L) (N := W) ?_ (fun r hr hq => ?_)
  · (try dsimp only)
    rw [D_X10_boxToTidy_6_eq, a1, if_pos (nI_lle (Nat.le_refl _) (by omega))]
  · (try dsimp only at hq); (try dsimp only)
    rw [D_X10_boxToTidy_6_eq, a1, if_neg (nI_nge hr (by omega)), yc_top y w i7 hr i2 i4, rb_bi]
    rw [wst] at hq
    by_cases z1 : tpR R L n r = -1
    · rw [if_pos (Or.inl z1)] at hq
      rw [if_pos z1]
      simp only [dp_w, nI_1]
      apply D_X10_boxToTidy_6_to_6_a
      exact hq
    · rw [if_neg z1]
      have h0 : 0 < hR R n r := Nat.pos_of_ne_zero (fun q => z1 (tp_0 w i2 hr q))
      obtain ⟨i, j1, j2, j3, j4⟩ := tp_ex w i7 i2 hr h0 (y.lvl hr)
      rw [j2, nI_cl (by omega)] at hq
      rw [j2] at z1
      rw [j2, yc_sbw y w i7 j1 i2 i4, rb_bi]
      by_cases z2 : sbw n (dp_I C 6) R L i ≤ (wst n W H G (dp_I C 5) (dp_I C 4) (dp_I C 7) (dp_I C 3) (dp_I C 34) (dp_I C 35) (dp_I C 6) R L r).2
      · rw [if_pos (Or.inr (Or.inl z2))] at hq
        rw [if_pos z2]
        simp only [dp_w, nI_1]
        apply D_X10_boxToTidy_6_to_6_a
        exact hq
      · rw [if_neg z2, yc_clr y w i7 j1 i2 i4 i6 hwt (i11 i j1 (by rw [j3]; exact m1_ne (by omega))), rb_bi]
        by_cases z3 : clv n W H G (dp_I C 5) (dp_I C 4) (dp_I C 7) (dp_I C 3) (dp_I C 34) (dp_I C 35) (dp_I C 6) R L i = -1
        · rw [if_pos (Or.inr (Or.inr z3))] at hq
          rw [if_pos z3]
          simp only [dp_w, nI_1]
          apply D_X10_boxToTidy_6_to_6_a
          exact hq
        · rw [if_neg (fun q => q.elim z1 (fun q => q.elim z2 z3))] at hq
          rw [if_neg z3, yc_sbw y w i7 j1 i2 i4, rb_bi]
          simp only [dp_w, nI_1]
          apply D_X10_boxToTidy_6_to_6_a
          exact hq
theorem yc_tidy {n W H G N : Nat} {wt sz sp kd gd rs lv S st : Nat → Int32} (hwt : ∀ i, i < n → wi (wt i) 1 40) (hN : N ≤ 50) : ∀ (f j : Nat) (R L : Nat → Int32) (h : List (Nat × Int32)) (m : Int32) (C : dp_M), j + f = N → CY C n W H G R L h m → YI n W H G R L h S st → dp_I C 5 = wt → dp_I C 4 = sz → dp_I C 7 = sp → dp_I C 3 = kd → dp_I C 34 = gd → dp_I C 35 = rs → dp_I C 6 = lv → dp_I C 9 = S → dp_I C 11 = st →
    ∃ C', D_X10_tidy_2 xs xl (d + 6) (nI N) (nI j) C = iR (nI (j + (ngt n W H G wt sz sp kd gd rs lv f R L h m).1)) C' ∧ CY C' n W H G (ngt n W H G wt sz sp kd gd rs lv f R L h m).2.1 (ngt n W H G wt sz sp kd gd rs lv f R L h m).2.2.1 (ngt n W H G wt sz sp kd gd rs lv f R L h m).2.2.2.1 (ngt n W H G wt sz sp kd gd rs lv f R L h m).2.2.2.2 ∧ YI n W H G (ngt n W H G wt sz sp kd gd rs lv f R L h m).2.1 (ngt n W H G wt sz sp kd gd rs lv f R L h m).2.2.1 (ngt n W H G wt sz sp kd gd rs lv f R L h m).2.2.2.1 S st ∧ Off CY_S [] C C' ∧ Cst 0 0 C C'
  | 0, j, R, L, h, m, C, hj, cy, yi, _, _, _, _, _, _, _, _, _ => by
    refine ⟨C, ?_, cy, yi, Off.rr _ _ _, Cst.r _⟩
    rw [D_X10_tidy_2_eq, if_pos (nI_lle (by omega) (by omega))]; rfl
  | f + 1, j, R, L, h, m, C, hj, cy, yi, e1, e2, e3, e4, e5, e6, e7, e8, e9 => by
    have yi0 := yi
    obtain ⟨i1, i2, i3, i4, i5, i6, i7, i8, w, i10, i11, i12⟩ := yi
    have hw := yc_wst (xs := xs) (xl := xl) (d := d) cy (by rw [e8, e9]; exact yi0) (by rw [e1]; exact hwt)
    rw [e1, e2, e3, e4, e5, e6, e7] at hw
    rw [D_X10_tidy_2_eq, if_neg (nI_nge (by omega) (by omega)), hw, rb_bi]
    rcases wst_ok (G := G) (wt := wt) (sz := sz) (sp := sp) (kd := kd) (gd := gd) (rs := rs) (lv := lv) w i7 i2 (fun r hr => cy.lvl hr) W (Nat.le_refl _) with z | ⟨i, j1, j2, j3, j4⟩
    · rw [if_pos z]
      have en : ngt n W H G wt sz sp kd gd rs lv (f + 1) R L h m = (0, R, L, h, m) := by rw [ngt, if_pos z]
      rw [en]
      exact ⟨C, rfl, cy, yi0, Off.rr _ _ _, Cst.r _⟩
    · obtain ⟨g, hne⟩ := clv_go w i2 j1 j3 j4
      obtain ⟨s1, s2⟩ := i11 i j1 j3.1
      have hc := yc_clr (xs := xs) (xl := xl) (d := d + 1) cy w i7 j1 i2 i4 i6 (by rw [e1]; exact hwt) (by rw [e8, e9]; exact ⟨s1, s2⟩)
      rw [e1, e2, e3, e4, e5, e6, e7] at hc
      obtain ⟨C1, c1, c2, c3, c4⟩ := yc_bring (xs := xs) (xl := xl) (d := d + 4) cy yi0 g
      have k : ∀ k, k < 246 → k ∉ CY_S → k ≠ 114 → dp_I C1 k = dp_I C k := fun k h1 h2 h4 => (c3.1 k h1 h2 h4).1
      obtain ⟨C2, p1, p2, p3, p4, p5⟩ := yc_tidy hwt hN f (j + 1) _ _ _ _ C1 (by omega) c2 (yi0.go g s1 s2) ((k 5 (by decide) (by decide) (by decide)).trans e1) ((k 4 (by decide) (by decide) (by decide)).trans e2) ((k 7 (by decide) (by decide) (by decide)).trans e3) ((k 3 (by decide) (by decide) (by decide)).trans e4) ((k 34 (by decide) (by decide) (by decide)).trans e5) ((k 35 (by decide) (by decide) (by decide)).trans e6) ((k 6 (by decide) (by decide) (by decide)).trans e7) ((k 9 (by decide) (by decide) (by decide)).trans e8) ((k 11 (by decide) (by decide) (by decide)).trans e9)
      have ei : (nI i).toNatClampNeg = i := nI_cl (by omega)
      have en : ngt n W H G wt sz sp kd gd rs lv (f + 1) R L h m = ((ngt n W H G wt sz sp kd gd rs lv f (uI R i (clv n W H G wt sz sp kd gd rs lv R L i)) (goL n R L i (clv n W H G wt sz sp kd gd rs lv R L i)) (((i, R i) :: h).take 100) (m + 1)).1 + 1, (ngt n W H G wt sz sp kd gd rs lv f (uI R i (clv n W H G wt sz sp kd gd rs lv R L i)) (goL n R L i (clv n W H G wt sz sp kd gd rs lv R L i)) (((i, R i) :: h).take 100) (m + 1)).2) := by
        rw [ngt, if_neg (by rw [j2]; exact m1_ne (by omega)), j2, ei]
      rw [en]
      refine ⟨C2, ?_, p2, p3, c3.tr p4, c4.tr0 p5⟩
      rw [if_neg (by rw [j2]; exact m1_ne (by omega)), j2, hc, rb_bi, c1, rb_bv]
      simp only [dp_w, nI_1]
      apply D_X10_tidy_2_to_2_a
      have ee : ∀ a : Nat, j + 1 + a = j + (a + 1) := fun a => by omega
      rw [p1, ee]
/-- the model's night -/
def MR (M : dp_M) (n W : Nat) (wt sz sp kd gd rs lv : Nat → Int32) : Prop := dp_I M 114 3 = nI n ∧ dp_I M 137 = wt ∧ dp_I M 135 = sz ∧ dp_I M 139 = sp ∧ dp_I M 136 = kd ∧ dp_I M 138 = lv ∧ ∀ r, r < W → dp_I M 133 r = gd r ∧ dp_I M 134 r = rs r ∧ qin (rs r) 10
theorem MR_off {S T : List Nat} {M M' : dp_M} {n W : Nat} {wt sz sp kd gd rs lv : Nat → Int32} (y : MR M n W wt sz sp kd gd rs lv) (o : Off S T M M') (hS : ∀ k ∈ [133, 134, 135, 136, 137, 138, 139], k ∉ S) (hT : 3 ∉ T) : MR M' n W wt sz sp kd gd rs lv := by
  have e : ∀ k ∈ [133, 134, 135, 136, 137, 138, 139], dp_I M' k = dp_I M k := fun k hk => (o.1 k (by simp only [List.mem_cons, List.not_mem_nil, or_false] at hk; omega) (hS k hk) (by simp only [List.mem_cons, List.not_mem_nil, or_false] at hk; omega)).1
  unfold MR at y ⊢
  rw [(o.2.1 3 hT).1, e 133 (by decide), e 134 (by decide), e 135 (by decide), e 136 (by decide), e 137 (by decide), e 138 (by decide), e 139 (by decide)]
  exact y
theorem ym_clr {n W H G : Nat} {R L wt sz sp kd gd rs lv : Nat → Int32} {h : List (Nat × Int32)} {m : Int32} (y : MY M n W H G R L h m) (mr : MR M n W wt sz sp kd gd rs lv) (w : YW n W H R L) (hn : n ≤ 100) {x : Nat} (hx : x < n) (hW : W ≤ 20) (hH : H ≤ 8) (hG : G ≤ 400) (lvl : ∀ r, r < W → ∀ l, l < hR R n r → ∃ i, i < n ∧ R i = nI r ∧ L i = nI l) (hwt : ∀ i, i < n → wi (wt i) 1 40) : dp_den true xs xl (d + 4) 414 [.ref 114, .int (nI x)] M = iR (clv n W H G wt sz sp kd gd rs lv R L x) M := by
  obtain ⟨r1, r2, r3, r4, r5, r6, r7⟩ := mr
  obtain ⟨v, v1, v2⟩ := ym_aside (xs := xs) (xl := xl) (d := d) y w r1 hn hx hW hH hG (fun r hr => by rw [(r7 r hr).2.1]; exact (r7 r hr).2.2) lvl (by rw [r2]; exact hwt)
  rw [r2, r3, r4, r5, r6] at v2
  rw [v1, bsV_u (bsV_c (fun r hr => ok2_c (r7 r hr).1 (r7 r hr).2.1) (fun r hr => scr_c (r7 r hr).2.1) v2) (bvf_b W (by omega))]; rfl
theorem ym_wst {n W H G : Nat} {R L wt sz sp kd gd rs lv : Nat → Int32} {h : List (Nat × Int32)} {m : Int32} (y : MY M n W H G R L h m) (mr : MR M n W wt sz sp kd gd rs lv) (w : YW n W H R L) (hn : n ≤ 100) (hW : W ≤ 20) (hH : H ≤ 8) (hG : G ≤ 400) (lvl : ∀ r, r < W → ∀ l, l < hR R n r → ∃ i, i < n ∧ R i = nI r ∧ L i = nI l) (hwt : ∀ i, i < n → wi (wt i) 1 40) : dp_den true xs xl (d + 5) 415 [.ref 114] M = iR (wst n W H G wt sz sp kd gd rs lv R L W).1 M := by
  obtain ⟨m1, m2, m3, m4, m5⟩ := MYc y
  have mr0 := mr
  obtain ⟨r1, r2, r3, r4, r5, r6, r7⟩ := mr
  have a1 := y.1
  have a4 := y.2.2.2.1
  have nn : ∀ r, 0 ≤ (wst n W H G wt sz sp kd gd rs lv R L r).2.toInt := fun r => by
    induction r with
    | zero => show (0 : Int) ≤ (0 : Int32).toInt; decide
    | succ r ih =>
      rw [wst]; split
      · exact ih
      · dsimp only; unfold sbw; split
        · decide
        · have : ct (sof R L lv (R (tpR R L n r).toNatClampNeg) (L (tpR R L n r).toNatClampNeg) (tpR R L n r).toNatClampNeg) n ≤ n := ct_le _ _
          rw [nI_toInt (by omega)]; omega
  rw [D_X12_worst_0_den, D_X12_worst_0_eq]
  simp only [dp_w]
  refine lpb (F := fun (s : Int32 × Int32) r => D_X12_worst_6 xs xl (d + 4) s.1 s.2 (nI r) M) (s := wst n W H G wt sz sp kd gd rs lv R L) (N := W) ?_ (fun r hr hq => ?_)
  · (try dsimp only)
    rw [D_X12_worst_6_eq, a1, if_pos (nI_lle (Nat.le_refl _) (by omega))]
  · (try dsimp only at hq); (try dsimp only)
    have et : bxa (dp_I M 140) (dp_I M 141) (nI r) (nI (ct (rwf R (nI r)) n) - 1) n = tpR R L n r := m2 _ _
    rw [D_X12_worst_6_eq, a1, if_neg (nI_nge hr (by omega)), ym_hgt r1 hn, rb_bi, m1, ym_at r1 hn, rb_bi, et]
    rw [wst] at hq
    by_cases z1 : tpR R L n r = -1
    · rw [if_pos (Or.inl z1)] at hq
      rw [z1, if_neg (by decide), D_X12_worst_51_eq, if_pos]
      · simp only [dp_w, nI_1]
        apply D_X12_worst_6_to_6_a
        exact hq
      · have := nn r
        rw [Int32.le_iff_toInt_le]; exact this
    · have h0 : 0 < hR R n r := Nat.pos_of_ne_zero (fun q => z1 (tp_0 w hW hr q))
      obtain ⟨i, j1, j2, j3, j4⟩ := tp_ex w hn hW hr h0 (lvl r hr)
      rw [j2, nI_cl (by omega)] at hq
      rw [j2] at z1
      rw [j2, if_pos (show (0 : Int32) ≤ nI i from nI_le (a := 0) (b := i) (by omega) (by omega))]
      simp only [nI_cl (show i < 2147483648 by omega), nI_o (show i < 100 by omega) (by omega), if_false]
      rw [ym_soo r1 hn j1, rb_bi, m5, r6, (a4 i j1).2]
      have es : nI (ct (sof R L lv (nI r) (L i) i) n) = sbw n lv R L i := by
        unfold sbw; rw [j3, if_neg (m1_ne (by omega))]
      rw [es, D_X12_worst_51_eq]
      by_cases z2 : sbw n lv R L i ≤ (wst n W H G wt sz sp kd gd rs lv R L r).2
      · rw [if_pos (Or.inr (Or.inl z2))] at hq
        rw [if_pos z2]
        simp only [dp_w, nI_1]
        apply D_X12_worst_6_to_6_a
        exact hq
      · rw [if_neg z2, ym_clr y mr0 w hn j1 hW hH hG lvl hwt, rb_bi]
        have cn : clv n W H G wt sz sp kd gd rs lv R L i < 0 ↔ clv n W H G wt sz sp kd gd rs lv R L i = -1 := by
          rcases bsV_ok (bvf_b (ok := ok2 n H G R L wt sz sp kd gd rs lv i) (sc := scr n R L wt lv sp rs i) W (by omega)) with q | ⟨s, q1, -, q2, -⟩
          · have q' : clv n W H G wt sz sp kd gd rs lv R L i = -1 := q
            rw [q']; decide
          · have q' : clv n W H G wt sz sp kd gd rs lv R L i = nI s := q1
            rw [q']
            exact ⟨fun e => absurd e (nI_pos (by omega)), fun e => absurd e (m1_ne (by omega))⟩
        simp only [cn]
        by_cases z3 : clv n W H G wt sz sp kd gd rs lv R L i = -1
        · rw [if_pos (Or.inr (Or.inr z3))] at hq
          rw [if_pos z3]
          simp only [dp_w, nI_1]
          apply D_X12_worst_6_to_6_a
          exact hq
        · rw [if_neg (fun q => q.elim z1 (fun q => q.elim z2 z3))] at hq
          rw [if_neg z3]
          simp only [dp_w, nI_1]
          apply D_X12_worst_6_to_6_a
          exact hq
theorem ym_night {n W H G N : Nat} {wt sz sp kd gd rs lv S st : Nat → Int32} (hwt : ∀ i, i < n → wi (wt i) 1 40) (hN : N ≤ 50) : ∀ (f j : Nat) (R L : Nat → Int32) (h : List (Nat × Int32)) (m : Int32) (M : dp_M), j + f = N → MY M n W H G R L h m → MR M n W wt sz sp kd gd rs lv → YI n W H G R L h S st → (∀ R' L' h', YI n W H G R' L' h' S st → ∀ r, r < W → ∀ l, l < hR R' n r → ∃ i, i < n ∧ R' i = nI r ∧ L' i = nI l) →
    ∃ M', D_X12_night_30 xs xl (d + 5) (nI N) (nI j) (wst n W H G wt sz sp kd gd rs lv R L W).1 M = iR (nI (j + (ngt n W H G wt sz sp kd gd rs lv f R L h m).1)) M' ∧ MY M' n W H G (ngt n W H G wt sz sp kd gd rs lv f R L h m).2.1 (ngt n W H G wt sz sp kd gd rs lv f R L h m).2.2.1 (ngt n W H G wt sz sp kd gd rs lv f R L h m).2.2.2.1 (ngt n W H G wt sz sp kd gd rs lv f R L h m).2.2.2.2 ∧ Off MY_S MY_T M M' ∧ Cst 0 0 M M'
  | 0, j, R, L, h, m, M, hj, my, mr, yi, lvl => by
    refine ⟨M, ?_, my, Off.rr _ _ _, Cst.r _⟩
    rw [D_X12_night_30_eq, if_pos (nI_lle (by omega) (by omega))]; rfl
  | f + 1, j, R, L, h, m, M, hj, my, mr, yi, lvl => by
    have yi0 := yi
    obtain ⟨i1, i2, i3, i4, i5, i6, i7, i8, w, i10, i11, i12⟩ := yi
    have r1 := mr.1
    rw [D_X12_night_30_eq, if_neg (nI_nge (by omega) (by omega))]
    rcases wst_ok (G := G) (wt := wt) (sz := sz) (sp := sp) (kd := kd) (gd := gd) (rs := rs) (lv := lv) w i7 i2 (lvl R L h yi0) W (Nat.le_refl _) with z | ⟨i, j1, j2, j3, j4⟩
    · have en : ngt n W H G wt sz sp kd gd rs lv (f + 1) R L h m = (0, R, L, h, m) := by rw [ngt, if_pos z]
      rw [z, if_pos (by decide), en]
      exact ⟨M, rfl, my, Off.rr _ _ _, Cst.r _⟩
    · obtain ⟨g, hne⟩ := clv_go w i2 j1 j3 j4
      obtain ⟨s1, s2⟩ := i11 i j1 j3.1
      obtain ⟨M1, c1, c2, c3, c4⟩ := ym_goes (xs := xs) (xl := xl) (d := d + 2) my r1 i7 i2 i8 g (Or.inr hne)
      have mr1 := MR_off mr c3 (by decide) (by decide)
      have yi1 := yi0.go g s1 s2
      obtain ⟨M2, p1, p2, p3, p4⟩ := ym_night hwt hN f (j + 1) _ _ _ _ M1 (by omega) c2 mr1 yi1 lvl
      have hw := ym_wst (xs := xs) (xl := xl) (d := d) c2 mr1 (w.go i7 i2 g) i7 i2 i4 i6 (lvl _ _ _ yi1) hwt
      have ei : (nI i).toNatClampNeg = i := nI_cl (by omega)
      have en : ngt n W H G wt sz sp kd gd rs lv (f + 1) R L h m = ((ngt n W H G wt sz sp kd gd rs lv f (uI R i (clv n W H G wt sz sp kd gd rs lv R L i)) (goL n R L i (clv n W H G wt sz sp kd gd rs lv R L i)) (((i, R i) :: h).take 100) (m + 1)).1 + 1, (ngt n W H G wt sz sp kd gd rs lv f (uI R i (clv n W H G wt sz sp kd gd rs lv R L i)) (goL n R L i (clv n W H G wt sz sp kd gd rs lv R L i)) (((i, R i) :: h).take 100) (m + 1)).2) := by
        rw [ngt, if_neg (by rw [j2]; exact m1_ne (by omega)), j2, ei]
      rw [en, j2, if_neg (nI_pos (by omega)), ym_clr my mr w i7 j1 i2 i4 i6 (lvl R L h yi0) hwt, rb_bi, c1, rb_bv]
      simp only [dp_w, nI_1]
      rw [hw, rb_bi]
      refine ⟨M2, ?_, p2, c3.tr p3, c4.tr0 p4⟩
      have ee : ∀ a : Nat, j + 1 + a = j + (a + 1) := fun a => by omega
      rw [p1, ee]
end YI1
