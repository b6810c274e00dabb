-- needs: 75
/-! YARD: night, where -/
theorem YW.lvl {n W H : Nat} {R L : Nat → Int32} (w : YW n W H R L) (hn : n ≤ 100) (hW : W ≤ 20) {r : Nat} (hr : r < W) {l : Nat} (hl : l < hR R n r) : ∃ i, i < n ∧ R i = nI r ∧ L i = nI l := by
  have hle : hR R n r ≤ n := ct_le _ _
  have ex : ∀ k, ∃ i, k < hR R n r → i < n ∧ rwf R (nI r) i = true ∧ ct (rwf R (nI r)) i = k := fun k => by
    by_cases z : k < hR R n r
    · obtain ⟨i, h1⟩ := ctd (p := rwf R (nI r)) n k z
      exact ⟨i, fun _ => h1⟩
    · exact ⟨0, fun q => absurd q z⟩
  obtain ⟨e, he⟩ : ∃ e : Nat → Nat, ∀ k, k < hR R n r → e k < n ∧ rwf R (nI r) (e k) = true ∧ ct (rwf R (nI r)) (e k) = k := ⟨fun k => Classical.choose (ex k), fun k => Classical.choose_spec (ex k)⟩
  have lv : ∀ k, k < hR R n r → ∃ l, l < hR R n r ∧ L (e k) = nI l := fun k hk => by
    obtain ⟨h1, h2, -⟩ := he k hk
    have h3 := rwf_t.mp h2
    rcases w.1 _ h1 with q | ⟨r', l', q1, q2, q3, q4⟩
    · exact absurd (by rw [← h3, q.1]) (m1_ne (r := r) (by omega))
    · have : r' = r := by rw [h3, nI_eq (by omega) (by omega)] at q3; exact q3.symm
      subst this
      exact ⟨l', q2, q4⟩
  obtain ⟨k, k1, k2⟩ := sj (n := hR R n r) (p := fun k => (L (e k)).toNatClampNeg) (fun k hk => by
    obtain ⟨l', q1, q2⟩ := lv k hk
    show (L (e k)).toNatClampNeg < hR R n r
    rw [q2, nI_cl (by omega)]; exact q1) (fun a b ha hb q => by
    obtain ⟨l1, p1, p2⟩ := lv a ha
    obtain ⟨l2, p3, p4⟩ := lv b hb
    have q' : (L (e a)).toNatClampNeg = (L (e b)).toNatClampNeg := q
    rw [p2, p4, nI_cl (by omega), nI_cl (by omega)] at q'
    obtain ⟨a1, a2, a3⟩ := he a ha
    obtain ⟨b1, b2, b3⟩ := he b hb
    have := w.2.1 (e a) (e b) r a1 b1 hr (rwf_t.mp a2) (rwf_t.mp b2) (by rw [p2, p4, q'])
    rw [← a3, ← b3, this]) hl
  obtain ⟨h1, h2, -⟩ := he k k1
  obtain ⟨l', q1, q2⟩ := lv k k1
  have k2' : (L (e k)).toNatClampNeg = l := k2
  rw [q2, nI_cl (by omega)] at k2'
  exact ⟨e k, h1, rwf_t.mp h2, by rw [q2, k2']⟩
section YJ
variable {xs : Nat → Int32} {xl d : Nat} {C M : dp_M}
theorem s_night {n B T : Nat} (hy : HY M n B T) (hn : 246 ≤ dp_n M) (v1 : Int32) : ∃ k b M1 M2, dp_den true xs xl (d + 9) 606 [.ref 0, .int v1, .ref 245] M = iR k M1 ∧ dp_den true xs xl (d + 9) 416 [.ref 114, .int v1] M1 = iR b M2 ∧
    dp_I M2 114 0 = k ∧ (k = 0 → dp_J M2 245 0 = b.toInt64) ∧ HY M2 n B T ∧ Off HY_S HY_T M M2 ∧ Cst 1 6 M M2 := by
  obtain ⟨hr, W, H, G, R, L, h, m, cy, my, yi, e144, ygr⟩ := hy
  have hy : HY M n B T := ⟨hr, W, H, G, R, L, h, m, cy, my, yi, e144, ygr⟩
  have yi0 := yi
  obtain ⟨i1, i2, i3, i4, i5, i6, i7, i8, i9, i10, i11, i12⟩ := yi
  have a7 : dp_I M 114 3 = nI n := hr.2.2.2.2.2.2.1
  obtain ⟨r1, r2, r3, r4, r5, r6⟩ := hr.rows
  by_cases g : qin v1 51
  case neg =>
    refine ⟨1, 0, dp_new M 0 0 6, _, wL_night_x0 ?_, ?_, rfl, (fun e => by cases e), hy.refused hn 1⟩
    · rw [D_X11_night_0_den, D_X11_night_0_eq]
      simp only [q_win, w_50, rb_bi, ibz, if_neg g, q_nk hn]
    · rw [D_X12_night_0_den, D_X12_night_0_eq]
      simp only [q_min, w_50, rb_bi, ibz, if_neg g, q_ref]
  have g' := g
  obtain ⟨N, hN, rfl⟩ := qin_of g (by omega)
  obtain ⟨C', c1, c2, c3, c4, c5⟩ := yc_tidy (xs := xs) (xl := xl) (d := d) (N := N) (S := dp_I M 9) (st := dp_I M 11) (lv := dp_I M 6) r6 (by omega) N 0 R L h m M (by omega) cy yi0 rfl rfl rfl rfl rfl rfl rfl rfl rfl
  generalize hQ : ngt n W H G (dp_I M 5) (dp_I M 4) (dp_I M 7) (dp_I M 3) (dp_I M 34) (dp_I M 35) (dp_I M 6) N R L h m = Q at c1 c2 c3
  have hcl : dp_den true xs xl (d + 8) 278 [.ref 0, .int (nI N)] M = iR (nI Q.1) C' := by
    rw [D_X11_night_0_den, D_X11_night_0_eq]
    simp only [q_win, w_50, rb_bi, ibz, if_pos g']
    rw [D_X10_tidy_0_den, D_X10_tidy_0_eq]
    simp only [dp_w]
    rw [show (0 : Int32) = nI 0 from rfl, c1, rb_bi, Nat.zero_add]
  obtain ⟨N1, hN1⟩ : ∃ N1, N1 = dp_setI (dp_setJ C' 245 0 (nI Q.1).toInt64) 114 0 0 := ⟨_, rfl⟩
  have oN : Off [245] [0] C' N1 := by rw [hN1]; exact ((Off.rr _ _ C').J 245 (by decide) 0 _).F 0 (by decide) 0
  have o1 : Off HY_S HY_T M N1 := (c4.mono (by decide) (by decide) : Off HY_S HY_T M C').tr (oN.mono (by decide) (by decide))
  have my1 : MY N1 n W H G R L h m := MY_off (MY_off my c4 (by decide) (by decide)) oN (by decide) (by decide)
  have mr0 : MR M n W (dp_I M 5) (dp_I M 4) (dp_I M 7) (dp_I M 3) (dp_I M 34) (dp_I M 35) (dp_I M 6) := ⟨a7, r1, r2, r3, r4, r5, ygr⟩
  have mr1 := MR_off mr0 o1 (by decide) (by decide)
  have lvl : ∀ R' L' h', YI n W H G R' L' h' (dp_I M 9) (dp_I M 11) → ∀ r, r < W → ∀ l, l < hR R' n r → ∃ i, i < n ∧ R' i = nI r ∧ L' i = nI l := fun R' L' h' q r hr1 l hl => q.2.2.2.2.2.2.2.2.1.lvl i7 i2 hr1 hl
  obtain ⟨M2, p1, p2, p3, p4⟩ := ym_night (xs := xs) (xl := xl) (d := d + 3) (N := N) (S := dp_I M 9) (st := dp_I M 11) r6 (by omega) N 0 R L h m N1 (by omega) my1 mr1 yi0 lvl
  have hw := ym_wst (xs := xs) (xl := xl) (d := d + 3) my1 mr1 i9 i7 i2 i4 i6 (lvl _ _ _ yi0) r6
  rw [hQ] at p1 p2
  refine ⟨0, nI Q.1, _, M2, wL_night_ok hcl, ?_, ?_, fun _ => ?_, HY.step hr e144 ygr (o1.tr (p3.mono (by decide) (by decide))) (CY_off (CY_off c2 oN (by decide)) p3 (by decide)) p2 c3, o1.tr (p3.mono (by decide) (by decide)), ?_⟩
  · rw [D_X12_night_0_den, D_X12_night_0_eq]
    simp only [q_min, w_50, rb_bi, ibz, if_pos g', dp_w]
    rw [← hN1, hw, rb_bi, show (0 : Int32) = nI 0 from rfl, p1, Nat.zero_add]
  · rw [(p3.2.1 0 (by decide)).1, hN1]; simp [gII, uI]
  · rw [(p3.1 245 (by decide) (by decide) (by decide)).2.1, hN1]; simp [gJI, gJJ, uI]
  · have q1 : Cst 0 0 C' N1 := by rw [hN1]; exact ⟨Nat.le_refl _, Nat.le_refl _⟩
    exact ((c5.tr0 q1).tr0 p4).mono (by omega) (by omega)
/-- where -/
def whv (n : Nat) (lv R L sz wt sp kd : Nat → Int32) (x w : Nat) : Int32 := if w = 0 then R x else if w = 1 then L x else if w = 2 then (if R x = -1 then 0 else nI (ct (rwf R (R x)) n) - 1 - L x) else if w = 3 then (if sbw n lv R L x ≤ 0 then 0 else 1) else if w = 4 then sz x else if w = 5 then wt x else if w = 6 then lv x else if w = 7 then sp x else kd x
theorem s_where {n B T : Nat} (hy : HY M n B T) (hn : 246 ≤ dp_n M) (v1 v2 : Int32) : ∃ k b M1 M2, dp_den true xs xl (d + 6) 607 [.ref 0, .int v1, .int v2, .ref 245] M = iR k M1 ∧ dp_den true xs xl (d + 6) 419 [.ref 114, .int v1, .int v2] M1 = iR b M2 ∧
    dp_I M2 114 0 = k ∧ (k = 0 → dp_J M2 245 0 = b.toInt64) ∧ HY M2 n B T ∧ Off HY_S HY_T M M2 ∧ Cst 1 6 M M2 := by
  obtain ⟨hr, W, H, G, R, L, h, m, cy, my, yi, e144, ygr⟩ := hy
  have hy : HY M n B T := ⟨hr, W, H, G, R, L, h, m, cy, my, yi, e144, ygr⟩
  obtain ⟨i1, i2, i3, i4, i5, i6, i7, i8, i9, i10, i11, i12⟩ := yi
  have a1 := hr.1
  have a6 : dp_I M 1 2 = nI n := hr.2.2.2.2.2.1
  have a7 : dp_I M 114 3 = nI n := hr.2.2.2.2.2.2.1
  obtain ⟨r1, r2, r3, r4, r5, r6⟩ := hr.rows
  by_cases g : qin v1 n ∧ qin v2 9
  case neg =>
    refine ⟨1, 0, dp_new M 0 0 6, _, wL_where_x2 ?_, ?_, rfl, (fun e => by cases e), hy.refused hn 1⟩
    · rw [D_X11_where_0_den, D_X11_where_0_eq, pc_box a6 a1, rb_bi, ibz]
      simp only [q_win, rb_bi, ibz, q_nk hn, w_8]
      by_cases z1 : qin v1 n
      · rw [if_pos z1, if_neg (fun q => g ⟨z1, q⟩)]
      · rw [if_neg z1]
    · rw [D_X12_where_0_den, D_X12_where_0_eq, pm_box (n := n) (by rw [gIN (by omega)]; exact a7) a1, rb_bi, ibz]
      simp only [q_min, rb_bi, ibz, q_ref, w_8]
      by_cases z1 : qin v1 n
      · rw [if_pos z1, if_neg (fun q => g ⟨z1, q⟩)]
      · rw [if_neg z1]
  obtain ⟨g1, g2⟩ := g
  have g1' := g1
  have g2' := g2
  obtain ⟨x, hx, rfl⟩ := qin_of g1 (by omega)
  obtain ⟨w, hw, rfl⟩ := qin_of g2 (by omega)
  obtain ⟨K, hK⟩ : ∃ K, K = whv n (dp_I M 6) R L (dp_I M 4) (dp_I M 5) (dp_I M 7) (dp_I M 3) x w := ⟨_, rfl⟩
  have cy' := cy
  obtain ⟨c1, c2, c3, c4, c5, c6, c7, c8, c9, c10, c11, -⟩ := cy'
  have hab : dp_den true xs xl (d + 4) 229 [.ref 28, .int (nI x)] M = iR (if R x = -1 then 0 else nI (ct (rwf R (R x)) n) - 1 - L x) M := by
    rw [D_X10_above_0_den, D_X10_above_0_eq]
    simp only [nI_cl (show x < 2147483648 by omega), nI_o (show x < 100 by omega) (by omega), if_false, (c8 x hx).1, (c8 x hx).2]
    by_cases z : R x = -1
    · rw [if_pos z, if_pos z]
    · obtain ⟨r, l, q1, q2, q3, q4⟩ := i9.row hx z
      rw [if_neg z, if_neg z, q3]
      simp only [nI_cl (show r < 2147483648 by omega), c4, nI_o q1 (by omega), if_false, c10 r q1]
      rfl
  have hit : dp_den true xs xl (d + 4) 235 [.ref 28, .int (nI x)] M = iR (if sbw n (dp_I M 6) R L x ≤ 0 then 0 else 1) M := by
    rw [D_X10_isInTheWay_0_den, D_X10_isInTheWay_0_eq, yc_sbw cy i9 i7 hx i2 i4, rb_bi]
    split <;> rfl
  have hcl : dp_den true xs xl (d + 5) 280 [.ref 0, .int (nI x), .int (nI w)] M = iR K M := by
    rw [D_X11_where_0_den, D_X11_where_0_eq, pc_box a6 a1, rb_bi, ibz, if_pos g1']
    simp only [q_win, rb_bi, ibz, w_8, if_pos g2', hab, hit, nI_cl (show x < 2147483648 by omega), nI_o (show x < 100 by omega) (by omega), if_false, (c8 x hx).1, (c8 x hx).2]
    rw [hK]
    unfold whv
    have : w = 0 ∨ w = 1 ∨ w = 2 ∨ w = 3 ∨ w = 4 ∨ w = 5 ∨ w = 6 ∨ w = 7 ∨ w = 8 := by omega
    rcases this with rfl | rfl | rfl | rfl | rfl | rfl | rfl | rfl | rfl
    · rfl
    · rfl
    · rfl
    · show (if (if sbw n (dp_I M 6) R L x ≤ 0 then (0 : Int32) else 1) = 0 then iR 0 M else iR 1 M) = iR (if sbw n (dp_I M 6) R L x ≤ 0 then 0 else 1) M
      by_cases z : sbw n (dp_I M 6) R L x ≤ 0
      · simp only [if_pos z, if_true]
      · simp only [if_neg z, if_neg one_ne]
    · rfl
    · rfl
    · rfl
    · rfl
    · rfl
  refine ⟨0, K, _, dp_setI (dp_setJ M 245 0 K.toInt64) 114 0 0, wL_where_ok hcl, ?_, by simp [gII, uI], fun _ => by simp [gJI, gJJ, uI], hy.looked _⟩
  obtain ⟨N, hN⟩ : ∃ N, N = dp_setI (dp_setJ M 245 0 K.toInt64) 114 0 0 := ⟨_, rfl⟩
  have oN : Off [245] [0] M N := by rw [hN]; exact ((Off.rr _ _ M).J 245 (by decide) 0 _).F 0 (by decide) 0
  have mn : MY N n W H G R L h m := MY_off my oN (by decide) (by decide)
  have e : ∀ k, k < 246 → k ∉ [245] → k ≠ 114 → dp_I N k = dp_I M k := fun k h1 h2 h4 => (oN.1 k h1 h2 h4).1
  have n3 : dp_I N 114 3 = nI n := by rw [(oN.2.1 3 (by decide)).1]; exact a7
  obtain ⟨m1, m2, m3, m4, m5⟩ := MYc mn
  have a4 := mn.2.2.2.1
  have mit : dp_den true xs xl (d + 5) 418 [.ref 114, .int (nI x)] N = iR (if sbw n (dp_I M 6) R L x ≤ 0 then 0 else 1) N := by
    rw [D_X12_isInTheWay_0_den, D_X12_isInTheWay_0_eq]
    simp only [nI_cl (show x < 2147483648 by omega), nI_o (show x < 100 by omega) (by omega), if_false, (a4 x hx).1, (a4 x hx).2, i9.neg i2 hx]
    unfold sbw
    by_cases z : R x = -1
    · rw [if_pos z]; simp only [if_pos z]; rfl
    · rw [if_neg z, ym_soo n3 i7 hx, rb_bi, m5, e 138 (by decide) (by decide) (by decide), r5]
      simp only [if_neg z]
      split <;> rfl
  rw [D_X12_where_0_den, D_X12_where_0_eq, pm_box (n := n) (by rw [gIJ]; exact a7) a1, rb_bi, ibz, if_pos g1']
  simp only [q_min, rb_bi, ibz, w_8, if_pos g2', dp_w]
  rw [← hN, mit]
  simp only [nI_cl (show x < 2147483648 by omega), nI_o (show x < 100 by omega) (by omega), if_false, (a4 x hx).1, (a4 x hx).2, i9.neg i2 hx, ym_hgt n3 i7, rb_bi, m1, e 135 (by decide) (by decide) (by decide), e 136 (by decide) (by decide) (by decide), e 137 (by decide) (by decide) (by decide), e 138 (by decide) (by decide) (by decide), e 139 (by decide) (by decide) (by decide), r1, r2, r3, r4, r5]
  rw [hK]
  unfold whv
  have : w = 0 ∨ w = 1 ∨ w = 2 ∨ w = 3 ∨ w = 4 ∨ w = 5 ∨ w = 6 ∨ w = 7 ∨ w = 8 := by omega
  rcases this with rfl | rfl | rfl | rfl | rfl | rfl | rfl | rfl | rfl
  · rfl
  · rfl
  · show (if R x = -1 then iR 0 N else iR (nI (ct (rwf R (R x)) n) - 1 - L x) N) = iR (if R x = -1 then 0 else nI (ct (rwf R (R x)) n) - 1 - L x) N
    by_cases z : R x = -1
    · rw [if_pos z, if_pos z]
    · rw [if_neg z, if_neg z]
  · show (if (if sbw n (dp_I M 6) R L x ≤ 0 then (0 : Int32) else 1) = 0 then iR 0 N else iR 1 N) = iR (if sbw n (dp_I M 6) R L x ≤ 0 then 0 else 1) N
    by_cases z : sbw n (dp_I M 6) R L x ≤ 0
    · simp only [if_pos z, if_true]
    · simp only [if_neg z, if_neg one_ne]
  · rfl
  · rfl
  · rfl
  · rfl
  · rfl
end YJ
