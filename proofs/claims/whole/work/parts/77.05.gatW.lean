-- needs: 75 76
/-! GATE: withdraw, join, away -/
section GF
variable {xs : Nat → Int32} {xl d : Nat} {M : dp_M}
/-- class and model tell the same, behind changes elsewhere -/
theorem GTl.tell {c : Nat} (h : GTl M c) (hc : c + 1 < 1073741824) (v1 v2 : Int32) : ∃ t : Nat, (∀ C, dp_I C 37 = dp_I M 37 → dp_I C 50 = dp_I M 50 → dp_den true xs xl (d + 1) 50 [.ref 37, .int v1, .int v2] C = vR (tlC C t (10 * v1 + v2))) ∧
    ∀ C N : dp_M, dp_I C 37 = dp_I M 37 → dp_I C 50 = dp_I M 50 → dp_I N 37 = dp_I (tlC C t (10 * v1 + v2)) 37 → dp_I N 50 = dp_I (tlC C t (10 * v1 + v2)) 50 → dp_I N 114 52 = dp_I M 114 52 → dp_I N 154 = dp_I M 154 → ∀ d', ∃ M2, dp_den true xs xl (d' + 1) 422 [.ref 114, .int v1, .int v2] N = vR M2 ∧ GTl M2 (c + 1) ∧ Off [154] [52] N M2 ∧ Cst 0 0 N M2 := by
  obtain ⟨hc0, t, sq, ht, ct0, mt0⟩ := h
  refine ⟨t, fun C e1 e2 => (gc_tell (CT_e ct0 (by rw [e1]) e2) (by omega) v1 v2).1, fun C N e1 e2 e3 e4 e5 e6 d' => ?_⟩
  obtain ⟨M2, q1, q2, q3, q4⟩ := gm_tell (xs := xs) (xl := xl) (d := d') (M := N) (MT_e mt0 e5 e6) (by omega) v1 v2
  have ctC := (gc_tell (xs := xs) (xl := xl) (d := d) (M := C) (CT_e ct0 (by rw [e1]) e2) (by omega) v1 v2).2
  refine ⟨M2, q1, ⟨hc, t + 1, _, by omega, ?_, q2⟩, q3, q4⟩
  exact CT_e ctC (by rw [(q3.1 37 (by decide) (by decide) (by decide)).1, e3]) (by rw [(q3.1 50 (by decide) (by decide) (by decide)).1, e4])
theorem tlC_I (C : dp_M) (t : Nat) (v : Int32) (k : Nat) (h1 : k ≠ 37) (h2 : k ≠ 50) : dp_I (tlC C t v) k = dp_I C k := by
  unfold tlC; rw [gII, if_neg h1, gII, if_neg h2]
theorem tlC_g (C : dp_M) (t : Nat) (v : Int32) : dp_I (tlC C t v) 37 2 = dp_I C 37 2 := by
  unfold tlC; rw [gII, if_pos rfl, uI_n (by decide), gII, if_neg (by decide)]
theorem s_withdraw {n B t c : Nat} (h : PR M n B t c) (hc : c + 1 < 1073741824) (hn : 246 ≤ dp_n M) (v1 : Int32) : ∃ k b M1 M2, dp_den true xs xl (d + 5) 616 [.ref 0, .int v1, .ref 245] M = iR k M1 ∧ dp_den true xs xl (d + 5) 438 [.ref 114, .int v1] M1 = iR b M2 ∧
    dp_I M2 114 0 = k ∧ (k = 0 → dp_J M2 245 0 = b.toInt64) ∧ PR M2 n B t (c + 1) ∧ Off (245 :: PR_W) (0 :: PR_V) M M2 ∧ Cst 1 6 M M2 := by
  have h0 := h
  obtain ⟨p1, p2, p3, p4, p5, p6, p7⟩ := h0.bx
  obtain ⟨h1, h2, h3, h4, h5, h6, h7⟩ := h
  obtain ⟨u1, u2, u3⟩ := h6
  by_cases g : qin v1 n
  case neg =>
    obtain ⟨r1, r2, r3⟩ := h0.refused hn 1
    refine ⟨1, 0, dp_new M 0 0 6, _, wL_withdraw_x0 ?_, ?_, rfl, (fun e => by cases e), r1.up (by omega) hc, r2, r3⟩
    · rw [D_X11_withdraw_0_den, D_X11_withdraw_0_eq, pc_box p2 p1, rb_bi, ibz, if_neg g, q_nk hn]
    · rw [D_X12_withdraw_0_den, D_X12_withdraw_0_eq, pm_box (n := n) (by rw [gIN (by omega)]; exact p3) p1, rb_bi, ibz, if_neg g, q_ref, rb_bi]
  have g' := g
  obtain ⟨x, hx, rfl⟩ := qin_of g (by omega)
  have pw := p5 x hx
  have kgz : dp_I M 11 x = 1 → ¬ dp_I M 41 x = 0 := fun q e => by
    rw [(u2 x hx).2.2 q] at e
    obtain ⟨w, w1, w2, ew⟩ := wi_of (a := 1) (b := 40) pw (by omega)
    rw [ew, show (1000 : Int32) = nI 1000 from rfl, pk_mul, show (0 : Int32) = nI 0 from rfl, nI_eq (by omega) (by omega)] at e
    omega
  have c1 : dp_den true xs xl (d + 4) 291 [.ref 0, .int (nI x)] M = dp_bi (dp_den true xs xl (d + 3) 46 [.ref 37, .int (nI x)] M) (fun r4 M3 => iR r4 M3) := by
    rw [D_X11_withdraw_0_den, D_X11_withdraw_0_eq, pc_box p2 p1, rb_bi, ibz, if_pos g']
  have m1 : ∀ N : dp_M, dp_I N 114 3 = nI n → dp_I N 144 = dp_I M 11 → dp_I N 145 = dp_I M 41 → dp_den true xs xl (d + 5) 438 [.ref 114, .int (nI x)] N = if dp_I M 11 x = 1 then dp_bv (dp_den true xs xl (d + 4) 422 [.ref 114, .int (nI x), .int 5] (dp_setI N 114 0 0)) (fun M6 => iR 0 M6) else (if dp_I M 41 x = 0 then iR 2 (dp_setI N 114 0 0) else dp_bv (dp_den true xs xl (d + 4) 422 [.ref 114, .int (nI x), .int 4] (dp_setI (dp_setI N 114 0 0) 145 x 0)) (fun M8 => iR 1 M8)) := fun N q1 q2 q3 => by
    rw [D_X12_withdraw_0_den, D_X12_withdraw_0_eq, pm_box q1 p1, rb_bi, ibz, if_pos g']
    simp only [dp_w, nI_cl (show x < 2147483648 by omega), nI_o (show x < 100 by omega) (by omega), if_false, gII, Nat.reduceEqDiff, q2, q3]
  have c2 : dp_den true xs xl (d + 3) 46 [.ref 37, .int (nI x)] M = if dp_I M 41 x = 0 then iR 2 M else (if dp_I M 11 x = 1 then dp_bv (dp_den true xs xl (d + 2) 50 [.ref 37, .int (nI x), .int 5] M) (fun M1 => iR 0 M1) else dp_bv (dp_den true xs xl (d + 2) 50 [.ref 37, .int (nI x), .int 4] (dp_setI M 41 x 0)) (fun M3 => iR 1 M3)) := by
    rw [D_X1_takeBackRelease_0_den, D_X1_takeBackRelease_0_eq]
    simp only [dp_w, nI_cl (show x < 2147483648 by omega), nI_o (show x < 100 by omega) (by omega), if_false]
  by_cases z1 : dp_I M 11 x = 1
  · have z2 := kgz z1
    obtain ⟨tt, t1, t2⟩ := h2.tell (xs := xs) (xl := xl) (d := d + 1) hc (nI x) 5
    obtain ⟨C, hC⟩ : ∃ C, C = tlC M tt (10 * nI x + 5) := ⟨_, rfl⟩
    have oC : Off [245, 37, 50, 154] [0, 52] M C := by rw [hC]; unfold tlC; exact ((Off.rr _ _ M).I 50 (by decide) _ _).I 37 (by decide) _ _
    obtain ⟨N, hN⟩ : ∃ N, N = dp_setI (dp_setJ C 245 0 (0 : Int32).toInt64) 114 0 0 := ⟨_, rfl⟩
    have nk : ∀ k, k ≠ 114 → dp_I N k = dp_I C k := fun k q => by rw [hN, gII, if_neg q, gIJ]
    obtain ⟨M2, q1, q2, q3, q4⟩ := t2 M N rfl rfl (by rw [nk 37 (by decide), hC]) (by rw [nk 50 (by decide), hC]) (by rw [hN, gII, if_pos rfl, uI_n (by decide), gIJ, hC, tlC_I _ _ _ 114 (by decide) (by decide)]) (by rw [nk 154 (by decide), hC, tlC_I _ _ _ 154 (by decide) (by decide)]) (d + 3)
    have oN : Off [245, 37, 50, 154] [0, 52] M N := by rw [hN]; exact (oC.J 245 (by decide) 0 _).F 0 (by decide) 0
    have oK := oN.tr (q3.mono (by decide) (by decide) : Off [245, 37, 50, 154] [0, 52] N M2)
    have e37 : dp_I M2 37 2 = dp_I M 37 2 := by rw [(q3.1 37 (by decide) (by decide) (by decide)).1, nk 37 (by decide), hC, tlC_g]
    refine ⟨0, 0, _, M2, wL_withdraw_ok (M1 := C) (x := 0) (by rw [c1, c2, if_neg z2, if_pos z1, t1 M rfl rfl, rb_bv, rb_bi, hC]), ?_, ?_, fun _ => ?_, ⟨PHY_off h1 oK (by decide) (by decide), q2, GGd_37 h3 e37 (fun k hk => (oK.1 k (by simp only [List.mem_cons, List.not_mem_nil, or_false] at hk; omega) (by simp only [List.mem_cons, List.not_mem_nil, or_false] at hk ⊢; omega) (by simp only [List.mem_cons, List.not_mem_nil, or_false] at hk; omega)).1) (fun i hi => (oK.2.1 i (by simp only [List.mem_cons, List.not_mem_nil, or_false] at hi ⊢; omega)).1), (GBr_off h4 oK (by decide)).up (by omega), GLd_off h5 oK (by decide), GRl_off ⟨u1, u2, u3⟩ oK (by decide), GRu_off h7 oK (by decide)⟩, oK.mono (by decide) (by decide), ?_⟩
    · rw [m1 _ (by rw [gIJ, hC, tlC_I _ _ _ 114 (by decide) (by decide)]; exact p3) (by rw [gIJ, hC, tlC_I _ _ _ 144 (by decide) (by decide)]; exact p6) (by rw [gIJ, hC, tlC_I _ _ _ 145 (by decide) (by decide)]; exact u1), if_pos z1, ← hN, q1, rb_bv]
    · rw [(q3.2.1 0 (by decide)).1, hN]; simp [gII, uI]
    · rw [(q3.1 245 (by decide) (by decide) (by decide)).2.1, hN]; simp [gJI, gJJ, uI]
    · have q5 : Cst 0 0 M N := by rw [hN, hC]; exact ⟨Nat.le_refl _, Nat.le_refl _⟩
      exact (q5.tr0 q4).mono (by omega) (by omega)
  by_cases z2 : dp_I M 41 x = 0
  · obtain ⟨r1, r2, r3⟩ := h0.looked ((2 : Int32).toInt64)
    refine ⟨0, 2, _, dp_setI (dp_setJ M 245 0 (2 : Int32).toInt64) 114 0 0, wL_withdraw_ok (M1 := M) (x := 2) (by rw [c1, c2, if_pos z2, rb_bi]), ?_, by simp [gII, uI], fun _ => by simp [gJI, gJJ, uI], r1.up (by omega) hc, r2, r3⟩
    rw [m1 _ (by rw [gIJ]; exact p3) (by rw [gIJ]; exact p6) (by rw [gIJ]; exact u1), if_neg z1, if_pos z2]
  · obtain ⟨tt, t1, t2⟩ := h2.tell (xs := xs) (xl := xl) (d := d + 1) hc (nI x) 4
    obtain ⟨C0, hC0⟩ : ∃ C0, C0 = dp_setI M 41 x 0 := ⟨_, rfl⟩
    have c0 : ∀ k, k ≠ 41 → dp_I C0 k = dp_I M k := fun k q => by rw [hC0, gII, if_neg q]
    obtain ⟨C, hC⟩ : ∃ C, C = tlC C0 tt (10 * nI x + 4) := ⟨_, rfl⟩
    have oC : Off [245, 37, 41, 50, 145, 154] [0, 52] M C := by rw [hC, hC0]; unfold tlC; exact (((Off.rr _ _ M).I 41 (by decide) _ _).I 50 (by decide) _ _).I 37 (by decide) _ _
    obtain ⟨N, hN⟩ : ∃ N, N = dp_setI (dp_setI (dp_setJ C 245 0 (1 : Int32).toInt64) 114 0 0) 145 x 0 := ⟨_, rfl⟩
    have nk : ∀ k, k ≠ 114 → k ≠ 145 → dp_I N k = dp_I C k := fun k q q' => by rw [hN, gII, if_neg q', gII, if_neg q, gIJ]
    have ck : ∀ k, k ≠ 37 → k ≠ 50 → k ≠ 41 → dp_I C k = dp_I M k := fun k a b e => by rw [hC, tlC_I _ _ _ k a b, c0 k e]
    obtain ⟨M2, q1, q2, q3, q4⟩ := t2 C0 N (c0 37 (by decide)) (c0 50 (by decide)) (by rw [nk 37 (by decide) (by decide), hC]) (by rw [nk 50 (by decide) (by decide), hC]) (by rw [hN, gII, if_neg (by decide), gII, if_pos rfl, uI_n (by decide), gIJ, ck 114 (by decide) (by decide) (by decide)]) (by rw [nk 154 (by decide) (by decide), ck 154 (by decide) (by decide) (by decide)]) (d + 3)
    have oN : Off [245, 37, 41, 50, 145, 154] [0, 52] M N := by rw [hN]; exact ((oC.J 245 (by decide) 0 _).F 0 (by decide) 0).I 145 (by decide) _ _
    have oK := oN.tr (q3.mono (by decide) (by decide) : Off [245, 37, 41, 50, 145, 154] [0, 52] N M2)
    have e37 : dp_I M2 37 2 = dp_I M 37 2 := by rw [(q3.1 37 (by decide) (by decide) (by decide)).1, nk 37 (by decide) (by decide), hC, tlC_g, c0 37 (by decide)]
    have r41 : dp_I M2 41 = uI (dp_I M 41) x 0 := by rw [(q3.1 41 (by decide) (by decide) (by decide)).1, nk 41 (by decide) (by decide), hC, tlC_I _ _ _ 41 (by decide) (by decide), hC0, gII, if_pos rfl]
    have r145 : dp_I M2 145 = uI (dp_I M 145) x 0 := by rw [(q3.1 145 (by decide) (by decide) (by decide)).1, hN, gII, if_pos rfl, gII, if_neg (by decide), gIJ, ck 145 (by decide) (by decide) (by decide)]
    refine ⟨0, 1, _, M2, wL_withdraw_ok (M1 := C) (x := 1) (by rw [c1, c2, if_neg z2, if_neg z1, ← hC0, t1 C0 (c0 37 (by decide)) (c0 50 (by decide)), rb_bv, rb_bi, hC]), ?_, ?_, fun _ => ?_, ⟨PHY_off h1 oK (by decide) (by decide), q2, GGd_37 h3 e37 (fun k hk => (oK.1 k (by simp only [List.mem_cons, List.not_mem_nil, or_false] at hk; omega) (by simp only [List.mem_cons, List.not_mem_nil, or_false] at hk ⊢; omega) (by simp only [List.mem_cons, List.not_mem_nil, or_false] at hk; omega)).1) (fun i hi => (oK.2.1 i (by simp only [List.mem_cons, List.not_mem_nil, or_false] at hi ⊢; omega)).1), (GBr_off h4 oK (by decide)).up (by omega), GLd_off h5 oK (by decide), ⟨by rw [r41, r145, u1], fun y hy => ?_, fun y q1 q2 => ?_⟩, GRu_off h7 oK (by decide)⟩, oK.mono (by decide) (by decide), ?_⟩
    · rw [m1 _ (by rw [gIJ, ck 114 (by decide) (by decide) (by decide)]; exact p3) (by rw [gIJ, ck 144 (by decide) (by decide) (by decide)]; exact p6) (by rw [gIJ, ck 145 (by decide) (by decide) (by decide)]; exact u1), if_neg z1, if_neg z2, ← hN, q1, rb_bv]
    · rw [(q3.2.1 0 (by decide)).1, hN]; simp [gII, uI]
    · rw [(q3.1 245 (by decide) (by decide) (by decide)).2.1, hN]; simp [gJI, gJJ, uI]
    · rw [r41, (oK.1 11 (by decide) (by decide) (by decide)).1, (oK.1 5 (by decide) (by decide) (by decide)).1]
      by_cases w : y = x
      · subst w; rw [uI_s]; exact ⟨by decide, by decide, fun q => absurd q z1⟩
      · rw [uI_n w]; exact u2 y hy
    · rw [r41, uI_n (by omega)]; exact u3 y q1 q2
    · have q5 : Cst 0 0 M N := by rw [hN, hC, hC0]; exact ⟨Nat.le_refl _, Nat.le_refl _⟩
      exact (q5.tr0 q4).mono (by omega) (by omega)
/-- join -/
def jnr (L : Nat → Int32) (g k : Int32) (i : Nat) : Nat → Int32 := fun j => if j < i ∧ L j = g then k else L j
theorem jnr_0 (L : Nat → Int32) (g k : Int32) : jnr L g k 0 = L := by funext j; unfold jnr; rw [if_neg (fun q => by omega)]
theorem jnr_s (L : Nat → Int32) (g k : Int32) (i : Nat) : uI (jnr L g k i) i (if L i = g then k else L i) = jnr L g k (i + 1) := by
  funext j; unfold uI jnr
  by_cases z : j = i
  · subst z
    rw [if_pos rfl]
    by_cases w : L j = g
    · rw [if_pos w, if_pos ⟨by omega, w⟩]
    · rw [if_neg w, if_neg (fun q => w q.2)]
  · rw [if_neg z]
    by_cases w : j < i ∧ L j = g
    · rw [if_pos w, if_pos ⟨by omega, w.2⟩]
    · rw [if_neg w, if_neg (fun q => w ⟨by omega, q.2⟩)]
theorem jnr_i (L : Nat → Int32) (g k : Int32) (i : Nat) : jnr L g k i i = L i := by unfold jnr; rw [if_neg (fun q => by omega)]
theorem s_join {n B t c : Nat} (h : PR M n B t c) (hn : 246 ≤ dp_n M) (v1 v2 : Int32) : ∃ k b M1 M2, dp_den true xs xl (d + 4) 612 [.ref 0, .int v1, .int v2, .ref 245] M = iR k M1 ∧ dp_den true xs xl (d + 4) 430 [.ref 114, .int v1, .int v2] M1 = iR b M2 ∧
    dp_I M2 114 0 = k ∧ (k = 0 → dp_J M2 245 0 = b.toInt64) ∧ PR M2 n B t c ∧ Off (245 :: PR_W) (0 :: PR_V) M M2 ∧ Cst 1 6 M M2 := by
  have h0 := h
  obtain ⟨p1, p2, p3, p4, p5, p6, p7⟩ := h0.bx
  obtain ⟨h1, h2, h3, h4, ⟨u1, u2⟩, h6, h7⟩ := h
  by_cases g : qin v1 n ∧ qin v2 n ∧ ¬ v1 = v2
  case neg =>
    refine ⟨1, 0, dp_new M 0 0 6, _, wL_join_x0 ?_, ?_, rfl, (fun e => by cases e), h0.refused hn 1⟩
    · rw [D_X11_join_0_den, D_X11_join_0_eq, pc_box p2 p1, rb_bi, ibz]
      by_cases z1 : qin v1 n
      case neg => rw [if_neg z1, q_nk hn]
      rw [if_pos z1, pc_box p2 p1, rb_bi, ibz]
      by_cases z2 : qin v2 n
      case neg => rw [if_neg z2, q_nk hn]
      rw [if_pos z2, if_pos (Classical.not_not.mp (fun q => g ⟨z1, z2, q⟩)), q_nk hn]
    · have e3 : dp_I (dp_new M 0 0 6) 114 3 = nI n := by rw [gIN (by omega)]; exact p3
      rw [D_X12_join_0_den, D_X12_join_0_eq, pm_box e3 p1, rb_bi, ibz]
      simp only [q_ref, rb_bi]
      by_cases z1 : qin v1 n
      case neg => rw [if_neg z1]
      rw [if_pos z1, pm_box e3 p1, rb_bi, ibz]
      by_cases z2 : qin v2 n
      case neg => rw [if_neg z2]
      rw [if_pos z2, if_pos (Classical.not_not.mp (fun q => g ⟨z1, z2, q⟩))]
  obtain ⟨g1, g2, g3⟩ := g
  have g1' := g1
  have g2' := g2
  obtain ⟨x, hx, rfl⟩ := qin_of g1 (by omega)
  obtain ⟨y, hy, rfl⟩ := qin_of g2 (by omega)
  obtain ⟨a, ha⟩ : ∃ a, a = dp_I M 43 x := ⟨_, rfl⟩
  obtain ⟨b, hb⟩ : ∃ b, b = dp_I M 43 y := ⟨_, rfl⟩
  obtain ⟨mi, hmi⟩ : ∃ mi, mi = if b < a then b else a := ⟨_, rfl⟩
  obtain ⟨ma, hma⟩ : ∃ ma, ma = if a < b then b else a := ⟨_, rfl⟩
  have mm : (mi = ma) ↔ a = b := by
    rw [hmi, hma]
    by_cases q1 : b < a
    · rw [if_pos q1, if_neg (fun q => absurd q1 (Int32.not_lt.mpr (Int32.le_of_lt q)))]
      exact ⟨fun e => e.symm, fun e => e.symm⟩
    · rw [if_neg q1]
      by_cases q2 : a < b
      · rw [if_pos q2]
      · rw [if_neg q2]
        exact ⟨fun _ => Int32.le_antisymm (Int32.not_lt.mp q1) (Int32.not_lt.mp q2), fun _ => rfl⟩
  have m2 : ∀ v : Int32, (v = a ∨ v = b) ↔ (v = ma ∨ v = mi) := fun v => by
    rw [hmi, hma]
    by_cases q1 : b < a
    · rw [if_pos q1, if_neg (fun q => absurd q1 (Int32.not_lt.mpr (Int32.le_of_lt q)))]
    · rw [if_neg q1]
      by_cases q2 : a < b
      · rw [if_pos q2]; exact Or.comm
      · rw [if_neg q2]
        have : a = b := Int32.le_antisymm (Int32.not_lt.mp q1) (Int32.not_lt.mp q2)
        rw [← this]
  have hcu : dp_den true xs xl (d + 2) 35 [.ref 37, .int (nI x), .int (nI y)] M = if a = b then iR 0 M else iR 1 (rI M 43 (jnr (dp_I M 43) ma mi n)) := by
    rw [D_X1_unite_0_den, D_X1_unite_0_eq]
    simp only [nI_cl (show x < 2147483648 by omega), nI_o (show x < 100 by omega) (by omega), nI_cl (show y < 2147483648 by omega), nI_o (show y < 100 by omega) (by omega), if_false, dp_w, ← ha, ← hb, ← hmi, ← hma, mm]
    by_cases z : a = b
    · rw [if_pos z, if_pos z]
    rw [if_neg z, if_neg z]
    have key := lpb (F := fun (N : dp_M) i => D_X1_unite_44 xs xl (d + 1) (nI x) (nI y) mi ma (nI i) N) (s := fun i => rI M 43 (jnr (dp_I M 43) ma mi i)) (N := n) (r := (.inl (some (.int 1)), rI M 43 (jnr (dp_I M 43) ma mi n))) ?_ (fun i hi hr => ?_)
    · (try dsimp only at key)
      rw [jnr_0, rI_id] at key
      exact key
    · (try dsimp only)
      rw [D_X1_unite_44_eq]
      simp only [rI_I, Nat.reduceEqDiff, if_false, p2]
      rw [if_pos (nI_lle (Nat.le_refl _) (by omega))]
    · (try dsimp only at hr); (try dsimp only)
      rw [D_X1_unite_44_eq]
      simp only [rI_I, Nat.reduceEqDiff, if_false, p2, if_true, nI_cl (show i < 2147483648 by omega), nI_o (show i < 100 by omega) (by omega), jnr_i, dp_w, nI_1, rI_set]
      rw [if_neg (nI_nge hi (by omega))]
      rw [← jnr_s] at hr
      by_cases w : dp_I M 43 i = ma
      · rw [if_pos w] at hr
        rw [if_pos w]; exact hr
      · rw [if_neg w] at hr
        rw [if_neg w]; exact hr
  have hmu : ∀ N : dp_M, dp_I N 114 3 = nI n → (∀ i, i < n → dp_I N 146 i = dp_I M 43 i) → ∃ f, dp_den true xs xl (d + 4) 430 [.ref 114, .int (nI x), .int (nI y)] N = (if a = b then iR 0 (dp_setI N 114 0 0) else iR 1 (rI (dp_setI N 114 0 0) 146 f)) ∧ ∀ i, i < n → f i = jnr (dp_I M 43) ma mi n i := fun N q1 q2 => by
    obtain ⟨N', hN'⟩ : ∃ N', N' = dp_setI N 114 0 0 := ⟨_, rfl⟩
    have e3 : dp_I N' 114 3 = nI n := by rw [hN', gII, if_pos rfl, uI_n (by decide)]; exact q1
    have e146 : dp_I N' 146 = dp_I N 146 := by rw [hN', gII, if_neg (by decide)]
    refine ⟨fun j => if j < n ∧ (dp_I N 146 j = a ∨ dp_I N 146 j = b) then mi else dp_I N 146 j, ?_, fun i hi => ?_⟩
    · have pre : ∀ r, D_X12_join_72 xs xl (d + 3) (nI x) (nI y) a b mi 0 N' = r → ¬ a = b → dp_den true xs xl (d + 4) 430 [.ref 114, .int (nI x), .int (nI y)] N = r := fun r hr z => by
        rw [D_X12_join_0_den, D_X12_join_0_eq, pm_box q1 p1, rb_bi, ibz, if_pos g1', pm_box q1 p1, rb_bi, ibz, if_pos g2', if_neg g3]
        simp only [dp_w, nI_cl (show x < 2147483648 by omega), nI_o (show x < 100 by omega) (by omega), nI_cl (show y < 2147483648 by omega), nI_o (show y < 100 by omega) (by omega), if_false, ← hN', e146, q2 x hx, q2 y hy, ← ha, ← hb]
        rw [if_neg z]
        by_cases w : b ≤ a
        · rw [if_pos w]
          have : mi = b := by
            rw [hmi]
            by_cases v : b < a
            · rw [if_pos v]
            · rw [if_neg v]; exact Int32.le_antisymm (Int32.not_lt.mp v) w
          rw [this] at hr; exact hr
        · rw [if_neg w]
          have : mi = a := by rw [hmi, if_neg (fun v => w (Int32.le_of_lt v))]
          rw [this] at hr
          exact hr
      by_cases z : a = b
      · rw [if_pos z, D_X12_join_0_den, D_X12_join_0_eq, pm_box q1 p1, rb_bi, ibz, if_pos g1', pm_box q1 p1, rb_bi, ibz, if_pos g2', if_neg g3]
        simp only [dp_w, nI_cl (show x < 2147483648 by omega), nI_o (show x < 100 by omega) (by omega), nI_cl (show y < 2147483648 by omega), nI_o (show y < 100 by omega) (by omega), if_false, ← hN', e146, q2 x hx, q2 y hy, ← ha, ← hb]
        rw [if_pos z]
      · rw [if_neg z]
        refine pre _ ?_ z
        obtain ⟨G, hG⟩ : ∃ G, G = dp_I N 146 := ⟨_, rfl⟩
        rw [← hG, ← hN']
        have key := lpb (F := fun (Q : dp_M) i => D_X12_join_72 xs xl (d + 3) (nI x) (nI y) a b mi (nI i) Q) (s := fun i => rI N' 146 (fun j => if j < i ∧ (G j = a ∨ G j = b) then mi else G j)) (N := n) (r := (.inl (some (.int 1)), rI N' 146 (fun j => if j < n ∧ (G j = a ∨ G j = b) then mi else G j))) ?_ (fun i hi hr => ?_)
        · (try dsimp only at key)
          have ez : (fun j => if j < 0 ∧ (G j = a ∨ G j = b) then mi else G j) = dp_I N' 146 := by
            rw [e146, ← hG]; funext j; rw [if_neg (fun q => by omega)]
          rw [ez, rI_id] at key
          exact key
        · (try dsimp only)
          rw [D_X12_join_72_eq]
          simp only [rI_I, Nat.reduceEqDiff, if_false, e3]
          rw [if_pos (nI_lle (Nat.le_refl _) (by omega))]
        · (try dsimp only at hr); (try dsimp only)
          have ei : (if i < i ∧ (G i = a ∨ G i = b) then mi else G i) = G i := if_neg (fun q => by omega)
          have es : ∀ v : Int32, v = (if G i = a ∨ G i = b then mi else G i) → uI (fun j => if j < i ∧ (G j = a ∨ G j = b) then mi else G j) i v = fun j => if j < i + 1 ∧ (G j = a ∨ G j = b) then mi else G j := fun v hv => by
            funext j; unfold uI
            by_cases w : j = i
            · subst w
              rw [if_pos rfl, hv]
              by_cases q : G j = a ∨ G j = b
              · rw [if_pos q, if_pos ⟨by omega, q⟩]
              · rw [if_neg q, if_neg (fun e => q e.2)]
            · rw [if_neg w]
              dsimp only
              by_cases q : j < i ∧ (G j = a ∨ G j = b)
              · rw [if_pos q, if_pos ⟨by omega, q.2⟩]
              · rw [if_neg q, if_neg (fun e => q ⟨by omega, e.2⟩)]
          rw [D_X12_join_72_eq]
          simp only [rI_I, Nat.reduceEqDiff, if_false, e3, if_true, nI_cl (show i < 2147483648 by omega), nI_o (show i < 100 by omega) (by omega), ei, dp_w, nI_1, rI_set]
          rw [if_neg (nI_nge hi (by omega))]
          by_cases w1 : G i = a
          · rw [if_pos w1, es mi (by rw [if_pos (Or.inl w1)])]; exact hr
          · rw [if_neg w1]
            by_cases w2 : G i = b
            · rw [if_pos w2, es mi (by rw [if_pos (Or.inr w2)])]; exact hr
            · rw [if_neg w2, es (G i) (by rw [if_neg (fun q => q.elim w1 w2)])]; exact hr
    · dsimp only
      unfold jnr
      rw [q2 i hi]
      by_cases w : dp_I M 43 i = ma
      · rw [if_pos ⟨hi, (m2 _).mpr (Or.inl w)⟩, if_pos ⟨hi, w⟩]
      · rw [if_neg (show ¬ (i < n ∧ dp_I M 43 i = ma) from fun q => w q.2)]
        by_cases v : dp_I M 43 i = a ∨ dp_I M 43 i = b
        · rw [if_pos ⟨hi, v⟩]
          exact (((m2 _).mp v).resolve_left w).symm
        · rw [if_neg (fun q => v q.2)]
  have c1 : dp_den true xs xl (d + 3) 286 [.ref 0, .int (nI x), .int (nI y)] M = dp_bi (dp_den true xs xl (d + 2) 35 [.ref 37, .int (nI x), .int (nI y)] M) (fun r6 M5 => if r6 = 0 then iR 0 M5 else iR 1 M5) := by
    rw [D_X11_join_0_den, D_X11_join_0_eq, pc_box p2 p1, rb_bi, ibz, if_pos g1', pc_box p2 p1, rb_bi, ibz, if_pos g2', if_neg g3]
  by_cases z : a = b
  · obtain ⟨f, f1, -⟩ := hmu (dp_setJ M 245 0 (0 : Int32).toInt64) (by rw [gIJ]; exact p3) (by rw [gIJ]; exact u1)
    refine ⟨0, 0, _, dp_setI (dp_setJ M 245 0 (0 : Int32).toInt64) 114 0 0, wL_join_ok (M1 := M) (x := 0) (by rw [c1, hcu, if_pos z, rb_bi, if_pos rfl]), by rw [f1, if_pos z], by simp [gII, uI], fun _ => by simp [gJI, gJJ, uI], h0.looked _⟩
  · obtain ⟨C, hC⟩ : ∃ C, C = rI M 43 (jnr (dp_I M 43) ma mi n) := ⟨_, rfl⟩
    obtain ⟨f, f1, f2⟩ := hmu (dp_setJ C 245 0 (1 : Int32).toInt64) (by rw [gIJ, hC, rI_I, if_neg (by decide)]; exact p3) (by rw [gIJ, hC, rI_I, if_neg (by decide)]; exact u1)
    obtain ⟨K, hK⟩ : ∃ K, K = rI (dp_setI (dp_setJ C 245 0 (1 : Int32).toInt64) 114 0 0) 146 f := ⟨_, rfl⟩
    have oK : Off [245, 43, 146] [0] M K := by rw [hK, hC]; exact ((((Off.rr _ _ M).rI 43 (by decide) _).J 245 (by decide) 0 _).F 0 (by decide) _).rI 146 (by decide) _
    have r43 : dp_I K 43 = jnr (dp_I M 43) ma mi n := by rw [hK, rI_I, if_neg (by decide), gII, if_neg (by decide), gIJ, hC, rI_I, if_pos rfl]
    have r146 : dp_I K 146 = f := by rw [hK, rI_I, if_pos rfl]
    refine ⟨0, 1, _, K, wL_join_ok (M1 := C) (x := 1) (by rw [c1, hcu, if_neg z, rb_bi, if_neg one_ne, hC]), by rw [f1, if_neg z, hK], ?_, fun _ => ?_, ⟨PHY_off h1 oK (by decide) (by decide), GTl_off h2 oK (by decide) (by decide), GGd_off h3 oK (by decide) (by decide), GBr_off h4 oK (by decide), ⟨fun i hi => by rw [r43, r146]; exact f2 i hi, fun i q1 q2 => ?_⟩, GRl_off h6 oK (by decide), GRu_off h7 oK (by decide)⟩, oK.mono (by decide) (by decide), by rw [hK, hC]; exact ⟨Nat.le_add_right _ _, Nat.le_add_right _ _⟩⟩
    · rw [hK]; simp [rI_I, gII, uI]
    · rw [hK]; simp [rI_J, gJI, gJJ, uI]
    · rw [r43]; unfold jnr; rw [if_neg (fun q => by omega)]; exact u2 i q1 q2
end GF
