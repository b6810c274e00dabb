-- needs: 75
/-! YARD: put, take, shift, choose -/
abbrev tpd (R L : Nat → Int32) (n x : Nat) : Prop := ¬ R x = -1 ∧ L x = nI (ct (rwf R (R x)) n) - 1
section YG
variable {xs : Nat → Int32} {xl d : Nat} {C M : dp_M}
theorem YW.row {n W H : Nat} {R L : Nat → Int32} (w : YW n W H R L) {x : Nat} (hx : x < n) (h : ¬ R x = -1) : ∃ r l, r < W ∧ l < hR R n r ∧ R x = nI r ∧ L x = nI l := (w.1 x hx).resolve_left (fun q => h q.1)
theorem YW.neg {n W H : Nat} {R L : Nat → Int32} (w : YW n W H R L) (hW : W ≤ 20) {x : Nat} (hx : x < n) : R x < 0 ↔ R x = -1 := by
  constructor
  · intro h
    refine Classical.byContradiction (fun q => ?_)
    obtain ⟨r, l, q1, q2, q3, q4⟩ := w.row hx q
    rw [q3] at h
    exact nI_pos (by omega) h
  · intro h; rw [h]; decide
theorem yc_ont {n W H G : Nat} {R L : Nat → Int32} {h : List (Nat × Int32)} {m : Int32} (y : CY C n W H G R L h m) (w : YW n W H R L) (hn : n ≤ 100) {x : Nat} (hx : x < n) (hW : W ≤ 20) (hH : H ≤ 8) : dp_den true xs xl (d + 3) 228 [.ref 28, .int (nI x)] C = iR (bI (tpd R L n x)) C := by
  have y' := y
  obtain ⟨a1, a2, a3, a4, a5, a6, a7, a8, a9, a10, a11, -⟩ := y'
  rw [D_X10_isOnTop_0_den, D_X10_isOnTop_0_eq]
  simp only [nI_cl (show x < 2147483648 by omega), nI_o (show x < 100 by omega) (by omega), if_false, (a8 x hx).1]
  by_cases z : R x = -1
  · rw [if_pos z, bI_f (fun q => q.1 z)]
  · rw [if_neg z]
    obtain ⟨r, l, q1, q2, q3, q4⟩ := w.row hx z
    have hle : hR R n r ≤ n := ct_le _ _
    have hd0 : dp_den true xs xl (d + 2) 227 [.ref 28, .int (R x)] C = iR (tpR R L n r) C := by rw [q3]; exact yc_top y w hn q1 hW hH
    rw [hd0, rb_bi]
    obtain ⟨i, j1, j2, j3, j4⟩ := tp_ex w hn hW q1 (by omega) (y.lvl q1)
    have e1 : nI (hR R n r) - 1 = nI (hR R n r - 1) := by
      obtain ⟨k, hk⟩ : ∃ k, hR R n r = k + 1 := ⟨hR R n r - 1, by omega⟩
      rw [hk, nI_pred, Nat.add_sub_cancel]
    have e2 : tpd R L n x ↔ i = x := by
      unfold tpd
      rw [q3]
      have : ct (rwf R (nI r)) n = hR R n r := rfl
      rw [this, e1]
      constructor
      · intro q; exact w.2.1 i x r j1 hx q1 j3 q3 (by rw [j4, q.2])
      · intro q; subst q; exact ⟨m1_ne (by omega), j4⟩
    rw [j2]
    simp only [nI_eq (show i < 2147483648 by omega) (show x < 2147483648 by omega)]
    by_cases u : i = x
    · rw [if_pos u, bI_t (e2.mpr u)]
    · rw [if_neg u, bI_f (fun q => u (e2.mp q))]
theorem ym_ont {n W H G : Nat} {R L : Nat → Int32} {h : List (Nat × Int32)} {m : Int32} (y : MY M n W H G R L h m) (w : YW n W H R L) (h3 : dp_I M 114 3 = nI n) (hn : n ≤ 100) {x : Nat} (hx : x < n) (hW : W ≤ 20) : dp_den true xs xl (d + 2) 399 [.ref 114, .int (nI x)] M = iR (bI (tpd R L n x)) M := by
  obtain ⟨m1, -⟩ := MYc y
  obtain ⟨a1, a2, a3, a4, -⟩ := y
  rw [D_X12_isTop_0_den, D_X12_isTop_0_eq]
  simp only [nI_cl (show x < 2147483648 by omega), nI_o (show x < 100 by omega) (by omega), if_false, (a4 x hx).1, (a4 x hx).2, w.neg hW hx]
  by_cases z : R x = -1
  · rw [if_pos z, bI_f (fun q => q.1 z)]
  · rw [if_neg z, ym_hgt h3 hn, rb_bi, m1]
    by_cases u : L x = nI (ct (rwf R (R x)) n) - 1
    · rw [if_pos u, bI_t ⟨z, u⟩]
    · rw [if_neg u, bI_f (fun q => u q.2)]
theorem goO.of0 {n W H : Nat} {R L : Nat → Int32} (w : YW n W H R L) {x : Nat} (hx : x < n) (hW : W ≤ 20) (h0 : R x = -1) {r : Nat} (hr : r < W) (h1 : ¬ hR R n r = H) : goO n W H R L x (nI r) := by
  refine ⟨hx, fun r' hr' e => absurd (by rw [← e, h0]) (m1_ne (r := r') (by omega)), Or.inr ⟨r, hr, rfl, ?_⟩⟩
  have := hR_r (R := R) hx r (by omega)
  have := w.2.2 r hr
  omega
theorem goO.of1 {n W H : Nat} {R L : Nat → Int32} (w : YW n W H R L) {x : Nat} (hx : x < n) (hW : W ≤ 20) (ht : tpd R L n x) {f : Int32} (hf : f = -1 ∨ ∃ r, r < W ∧ f = nI r ∧ ¬ hR R n r = H) : goO n W H R L x f := by
  refine ⟨hx, fun r hr e => ?_, ?_⟩
  · have := ht.2
    rw [e] at this; exact this
  · rcases hf with e | ⟨r, hr, e, h1⟩
    · exact Or.inl e
    · refine Or.inr ⟨r, hr, e, ?_⟩
      have := hR_r (R := R) hx r (by omega)
      have := w.2.2 r hr
      omega
/-- class and model bring a box -/
theorem HY.mv {d' n B T W H G : Nat} {R L : Nat → Int32} {h : List (Nat × Int32)} {m : Int32} (hr : HR M n B T) (cy : CY M n W H G R L h m) (my : MY M n W H G R L h m) (yi : YI n W H G R L h (dp_I M 9) (dp_I M 11)) (e144 : dp_I M 144 = dp_I M 11) (ygr : ∀ r, r < W → dp_I M 133 r = dp_I M 34 r ∧ dp_I M 134 r = dp_I M 35 r ∧ qin (dp_I M 35 r) 10) {x : Nat} {f : Int32} (g : goO n W H R L x f) (hne : f = -1 ∨ ¬ R x = f) (hS : dp_I M 9 x = 3) (hst : dp_I M 11 x = 0) : ∃ C', dp_den true xs xl (d + 2) 246 [.ref 28, .int (nI x), .int f] M = vR C' ∧ Off CY_S [] M C' ∧ ∀ v, ∃ M2, dp_den true xs xl (d' + 3) 409 [.ref 114, .int (nI x), .int f] (dp_setI (dp_setJ C' 245 0 v) 114 0 0) = vR M2 ∧ HY M2 n B T ∧ Off HY_S HY_T M M2 ∧ Cst 1 6 M M2 ∧ dp_I M2 114 0 = 0 ∧ dp_J M2 245 0 = v := by
  have yi0 := yi
  obtain ⟨i1, i2, i3, i4, i5, i6, i7, i8, i9, -⟩ := yi
  have a7 : dp_I M 114 3 = nI n := hr.2.2.2.2.2.2.1
  obtain ⟨C', c1, c2, c3, c4⟩ := yc_bring (xs := xs) (xl := xl) (d := d) cy yi0 g
  refine ⟨C', c1, c3, fun v => ?_⟩
  obtain ⟨N, hN⟩ : ∃ N, N = dp_setI (dp_setJ C' 245 0 v) 114 0 0 := ⟨_, rfl⟩
  have oN : Off [245] [0] C' N := by rw [hN]; exact ((Off.rr _ _ C').J 245 (by decide) 0 v).F 0 (by decide) 0
  have o1 : Off HY_S HY_T M N := (c3.mono (by decide) (by decide)).tr (oN.mono (by decide) (by decide))
  have myN : MY N n W H G R L h m := MY_off (MY_off my c3 (by decide) (by decide)) oN (by decide) (by decide)
  have n3 : dp_I N 114 3 = nI n := by rw [(o1.2.1 3 (by decide)).1]; exact a7
  obtain ⟨M2, m1, m2, m3, m4⟩ := ym_goes (xs := xs) (xl := xl) (d := d') myN n3 i7 i2 i8 g hne
  have cyN := CY_off (CY_off c2 oN (by decide)) m3 (by decide)
  refine ⟨M2, by rw [← hN]; exact m1, HY.step hr e144 ygr (o1.tr (m3.mono (by decide) (by decide))) cyN m2 (yi0.go g hS hst), o1.tr (m3.mono (by decide) (by decide)), ?_, ?_, ?_⟩
  · have q1 : Cst 0 0 C' N := by rw [hN]; exact ⟨Nat.le_refl _, Nat.le_refl _⟩
    exact ((c4.tr0 q1).tr0 m4).mono (by omega) (by omega)
  · rw [(m3.2.1 0 (by decide)).1, hN]; simp [gII, uI]
  · rw [(m3.1 245 (by decide) (by decide) (by decide)).2.1, hN]; simp [gJI, gJJ, uI]
/-- put -/
theorem s_put {n B T : Nat} (hy : HY M n B T) (hn : 246 ≤ dp_n M) (v1 v2 : Int32) : ∃ k b M1 M2, dp_den true xs xl (d + 6) 602 [.ref 0, .int v1, .int v2, .ref 245] M = iR k M1 ∧ dp_den true xs xl (d + 6) 410 [.ref 114, .int v1, .int v2] M1 = iR b M2 ∧
    dp_I M2 114 0 = k ∧ (k = 0 → dp_J M2 245 0 = b.toInt64) ∧ HY M2 n B T ∧ Off HY_S HY_T M M2 ∧ Cst 1 6 M M2 := by
  obtain ⟨hr, W, H, G, R, L, h, m, cy, my, yi, e144, ygr⟩ := hy
  have hy : HY M n B T := ⟨hr, W, H, G, R, L, h, m, cy, my, yi, e144, ygr⟩
  have yi0 := yi
  obtain ⟨i1, i2, i3, i4, i5, i6, i7, i8, i9, -⟩ := yi
  have c1 := cy.1
  have m1 := my.1
  have hr0 := hr
  obtain ⟨a1, a2, a3, a4, a5, a6, a7, a8, a9, a10, a11, a12, a13, a14, a15, b1, b2, b3, b4, b5, b6, b7, b8, b9, b10, f1, f2, f3⟩ := hr
  by_cases g : qin v1 n ∧ qin v2 W
  case neg =>
    refine ⟨1, 0, dp_new M 0 0 6, _, wL_put_x2 ?_, ?_, rfl, (fun e => by cases e), hy.refused hn 1⟩
    · rw [D_X11_put_0_den, D_X11_put_0_eq, pc_box a6 a1, rb_bi, ibz]
      by_cases z1 : qin v1 n
      · rw [if_pos z1, pc_yrd c1 i2, rb_bi, ibz, if_neg (fun q => g ⟨z1, q⟩), q_nk hn]
      · rw [if_neg z1, q_nk hn]
    · rw [D_X12_put_0_den, D_X12_put_0_eq, pm_box (n := n) (by rw [gIN (by omega)]; exact a7) a1, rb_bi, ibz]
      by_cases z1 : qin v1 n
      · rw [if_pos z1, pm_yrd (n := W) (by rw [gIN (by omega)]; exact m1) i2, rb_bi, ibz, if_neg (fun q => g ⟨z1, q⟩), q_ref, rb_bi]
      · rw [if_neg z1, q_ref, rb_bi]
  obtain ⟨g1, g2⟩ := g
  obtain ⟨x, hx, rfl⟩ := qin_of g1 (by omega)
  obtain ⟨r, hr1, rfl⟩ := qin_of g2 (by omega)
  obtain ⟨K, hK⟩ : ∃ K : Int32, K = if ¬ (dp_I M 9 x = 3 ∧ dp_I M 11 x = 0) then 9 else if ¬ R x = -1 then 1 else brk n H G R L (dp_I M 5) (dp_I M 4) (dp_I M 7) (dp_I M 3) (dp_I M 34) (dp_I M 35) x r := ⟨_, rfl⟩
  have hcb : dp_den true xs xl (d + 4) 238 [.ref 28, .int (nI x), .int (nI r)] M = iR K M := by
    rw [D_X10_brokenByPut_0_den, D_X10_brokenByPut_0_eq, hc_here hx a1, rb_bi, ibz, hK]
    simp only [nI_cl (show x < 2147483648 by omega), nI_o (show x < 100 by omega) (by omega), if_false, (cy.2.2.2.2.2.2.2.1 x hx).1]
    by_cases z1 : dp_I M 9 x = 3 ∧ dp_I M 11 x = 0
    · rw [if_pos z1, if_neg (show ¬ ¬ (dp_I M 9 x = 3 ∧ dp_I M 11 x = 0) from fun q => q z1)]
      by_cases z2 : R x = -1
      · rw [if_pos z2, if_neg (show ¬ ¬ R x = -1 from fun q => q z2), yc_brk cy i9 i7 hr1 hx i2 i4 i6, rb_bi]
      · rw [if_neg z2, if_pos z2]
    · rw [if_neg z1, if_pos z1]
  have hmp : ∀ N : dp_M, Off HY_S HY_T M N → MY N n W H G R L h m → dp_den true xs xl (d + 6) 410 [.ref 114, .int (nI x), .int (nI r)] N = if K = 0 then dp_bv (dp_den true xs xl (d + 5) 409 [.ref 114, .int (nI x), .int (nI r)] (dp_setI N 114 0 0)) (fun M16 => iR 1 M16) else iR (-K) (dp_setI N 114 0 0) := fun N o mn => by
    have oN : Off HY_S HY_T N (dp_setI N 114 0 0) := (Off.rr _ _ _).F 0 (by decide) 0
    have o2 := o.tr oN
    have mn2 : MY (dp_setI N 114 0 0) n W H G R L h m := MY_off mn ((Off.rr [] [0] N).F 0 (by decide) 0) (by decide) (by decide)
    have e : ∀ k, k < 246 → k ∉ HY_S → k ≠ 114 → dp_I (dp_setI N 114 0 0) k = dp_I M k := fun k h1 h2 h4 => (o2.1 k h1 h2 h4).1
    have n3 : dp_I N 114 3 = nI n := by rw [(o.2.1 3 (by decide)).1]; exact a7
    have n3' : dp_I (dp_setI N 114 0 0) 114 3 = nI n := by rw [(o2.2.1 3 (by decide)).1]; exact a7
    rw [D_X12_put_0_den, D_X12_put_0_eq, pm_box n3 a1, rb_bi, ibz, if_pos g1, pm_yrd (n := W) mn.1 i2, rb_bi, ibz, if_pos g2]
    simp only [dp_w]
    rw [hm_here hx a1, rb_bi, ibz, e 117 (by decide) (by decide) (by decide), e 144 (by decide) (by decide) (by decide), b3, e144, hK]
    simp only [nI_cl (show x < 2147483648 by omega), nI_o (show x < 100 by omega) (by omega), if_false, (mn2.2.2.2.1 x hx).1, i9.neg i2 hx]
    by_cases z1 : dp_I M 9 x = 3 ∧ dp_I M 11 x = 0
    · rw [if_pos z1, if_neg (show ¬ ¬ (dp_I M 9 x = 3 ∧ dp_I M 11 x = 0) from fun q => q z1)]
      by_cases z2 : R x = -1
      · rw [if_pos z2, if_neg (show ¬ ¬ R x = -1 from fun q => q z2), ym_brk mn2 i9 n3' i7 hr1 hx i2 i4 i6 (by rw [e 134 (by decide) (by decide) (by decide), (ygr r hr1).2.1]; exact (ygr r hr1).2.2) (cy.lvl hr1), rb_bi]
        have er : brk n H G R L (dp_I (dp_setI N 114 0 0) 137) (dp_I (dp_setI N 114 0 0) 135) (dp_I (dp_setI N 114 0 0) 139) (dp_I (dp_setI N 114 0 0) 136) (dp_I (dp_setI N 114 0 0) 133) (dp_I (dp_setI N 114 0 0) 134) x r = brk n H G R L (dp_I M 5) (dp_I M 4) (dp_I M 7) (dp_I M 3) (dp_I M 34) (dp_I M 35) x r := by
          rw [e 137 (by decide) (by decide) (by decide), e 135 (by decide) (by decide) (by decide), e 139 (by decide) (by decide) (by decide), e 136 (by decide) (by decide) (by decide), e 133 (by decide) (by decide) (by decide), e 134 (by decide) (by decide) (by decide), b8, b7, b10, b6]
          unfold brk
          rw [(ygr r hr1).1, (ygr r hr1).2.1]
        rw [er]
        simp only [brk_p]
      · rw [if_neg z2, if_pos z2, if_neg (by decide), if_neg one_ne]
    · rw [if_neg z1, if_pos z1, if_neg (by decide), if_neg (by decide)]
  have hcx : dp_den true xs xl (d + 5) 274 [.ref 0, .int (nI x), .int (nI r)] M = if K = 0 then dp_bv (dp_den true xs xl (d + 4) 246 [.ref 28, .int (nI x), .int (nI r)] M) (fun M7 => iR 1 M7) else iR (-K) M := by
    rw [D_X11_put_0_den, D_X11_put_0_eq, pc_box a6 a1, rb_bi, ibz, if_pos g1, pc_yrd c1 i2, rb_bi, ibz, if_pos g2, hcb, rb_bi]
  by_cases z : K = 0
  · have z1 : dp_I M 9 x = 3 ∧ dp_I M 11 x = 0 := Classical.byContradiction (fun q => by rw [hK, if_pos q] at z; exact absurd z (by decide))
    have z2 : R x = -1 := Classical.byContradiction (fun q => by rw [hK, if_neg (fun w => w z1), if_pos q] at z; exact absurd z (by decide))
    have z3 : brk n H G R L (dp_I M 5) (dp_I M 4) (dp_I M 7) (dp_I M 3) (dp_I M 34) (dp_I M 35) x r = 0 := by
      rw [hK, if_neg (fun w => w z1), if_neg (fun w => w z2)] at z; exact z
    have gg := goO.of0 i9 hx i2 z2 hr1 (brk_0 z3).1
    obtain ⟨C', d1, d2, d3⟩ := HY.mv (xs := xs) (xl := xl) (d := d + 2) (d' := d + 2) hr0 cy my yi0 e144 ygr gg (Or.inr (by rw [z2]; exact fun q => m1_ne (r := r) (by omega) q.symm)) z1.1 z1.2
    obtain ⟨M2', n1', n2', n3', n4', n5', n6'⟩ := d3 (1 : Int32).toInt64
    refine ⟨0, 1, _, M2', wL_put_ok (by rw [hcx, if_pos z, d1, rb_bv]), ?_, n5', fun _ => n6', n2', n3', n4'⟩
    rw [hmp _ ((d2.mono (by decide) (by decide) : Off HY_S HY_T M C').J 245 (by decide) 0 _) (MY_off (MY_off my d2 (by decide) (by decide)) ((Off.rr [245] [] C').J 245 (by decide) 0 _) (by decide) (by decide)), if_pos z, n1', rb_bv]
  · refine ⟨0, -K, _, dp_setI (dp_setJ M 245 0 (-K).toInt64) 114 0 0, wL_put_ok (by rw [hcx, if_neg z]), ?_, by simp [gII, uI], fun _ => by simp [gJI, gJJ, uI], hy.looked _⟩
    rw [hmp _ ((Off.rr _ _ M).J 245 (by decide) 0 _) (MY_off my ((Off.rr [245] [] M).J 245 (by decide) 0 _) (by decide) (by decide)), if_neg z]
end YG
