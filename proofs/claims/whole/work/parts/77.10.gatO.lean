-- needs: 75 76
/-! GATE: release, part, gate -/
section GK
variable {xs : Nat → Int32} {xl d : Nat} {M : dp_M}
theorem GRu.ask {K : dp_M} {S T : List Nat} (h : GRu M) (o : Off S T M K) (h1 : ∀ k ∈ [38, 39, 151, 152], k ∉ S) (e : dp_I K 153 = dp_I K 40) : GRu K := by
  obtain ⟨a1, a2, a3⟩ := h
  refine ⟨?_, ?_, e⟩
  · rw [(o.1 151 (by decide) (h1 151 (by decide)) (by decide)).1, (o.1 38 (by decide) (h1 38 (by decide)) (by decide)).1]; exact a1
  · rw [(o.1 152 (by decide) (h1 152 (by decide)) (by decide)).1, (o.1 39 (by decide) (h1 39 (by decide)) (by decide)).1]; exact a2
theorem PR.ask {K : dp_M} {n B t c : Nat} (h : PR M n B t c) (o : Off [245, 40, 153] [0] M K) (e : dp_I K 153 = dp_I K 40) : PR K n B t c := by
  obtain ⟨h1, h2, h3, h4, h5, h6, h7⟩ := h
  exact ⟨PHY_off h1 o (by decide) (by decide), GTl_off h2 o (by decide) (by decide), GGd_off h3 o (by decide) (by decide), GBr_off h4 o (by decide), GLd_off h5 o (by decide), GRl_off h6 o (by decide), h7.ask o (by decide) e⟩
theorem s_release {n B t c : Nat} (h : PR M n B t c) (hn : 246 ≤ dp_n M) (v1 : Int32) : ∃ k b M1 M2, dp_den true xs xl (d + 7) 613 [.ref 0, .int v1, .ref 245] M = iR k M1 ∧ dp_den true xs xl (d + 7) 435 [.ref 114, .int v1] M1 = iR b M2 ∧
    dp_I M2 114 0 = k ∧ (k = 0 → dp_J M2 245 0 = b.toInt64) ∧ PR M2 n B t c ∧ Off (245 :: PR_W) (0 :: PR_V) M M2 ∧ Cst 1 6 M M2 := by
  have h0 := h
  obtain ⟨p1, p2, p3, p4, p5, p6, p7⟩ := h0.bx
  obtain ⟨K, D, gk, gm⟩ := h0.gk
  by_cases g : qin v1 n
  case neg =>
    refine ⟨1, 0, dp_new M 0 0 6, _, wL_release_x0 ?_, ?_, rfl, (fun e => by cases e), h0.refused hn 1⟩
    · rw [D_X11_release_0_den, D_X11_release_0_eq, pc_box p2 p1, rb_bi, ibz, if_neg g, q_nk hn]
    · rw [D_X12_release_0_den, D_X12_release_0_eq, pm_box (n := n) (by rw [gIN (by omega)]; exact p3) p1, rb_bi, ibz, if_neg g, D_X12_release_14_eq]
      simp only [dp_w, gII, if_true, uI_s]
      rw [if_neg (by decide)]
  have g' := g
  obtain ⟨x, hx, rfl⟩ := qin_of g (by omega)
  obtain ⟨F, hF⟩ : ∃ F, F = fy (grf (dp_I M 43) x) (vdF M K) (dp_I M 40) n := ⟨_, rfl⟩
  obtain ⟨v, hv⟩ : ∃ v : Int32, v = bI (ttb (grf (dp_I M 43) x) (nbF M K D) n = 0) := ⟨_, rfl⟩
  have hv1 : (if v = 0 then (0 : Int32) else 1) = v := by rw [hv]; unfold bI; split <;> rfl
  have ask : ∀ {e : Nat}, dp_den true xs xl (e + 4) 39 [.ref 37, .int (nI x)] M = iR v (rI M 40 F) := by rw [hv, hF]; exact gc_ask gk p2 p1 hx
  obtain ⟨N, hN⟩ : ∃ N, N = dp_setI (dp_setJ (rI M 40 F) 245 0 v.toInt64) 114 0 0 := ⟨_, rfl⟩
  have nk : ∀ k, k ≠ 114 → k ≠ 40 → dp_I N k = dp_I M k := fun k a b => by rw [hN, gII, if_neg a, gIJ, rI_I, if_neg b]
  have ni : ∀ i, i ≠ 0 → dp_I N 114 i = dp_I M 114 i := fun i a => by rw [hN, gII, if_pos rfl, uI_n a, gIJ, rI_I, if_neg (by decide)]
  have gN : GMk N M n K D := gm N (fun k hk => nk k (fun q => by subst q; revert hk; decide) (fun q => by subst q; revert hk; decide)) (fun i hi => ni i (fun q => by subst q; revert hi; decide))
  have mask : ∀ {e : Nat}, dp_den true xs xl (e + 6) 434 [.ref 114, .int (nI x)] N = iR v (rI N 153 F) := by
    intro e
    rw [gm_ask gN hx, nk 153 (by decide) (by decide), show dp_I M 153 = dp_I M 40 from h.2.2.2.2.2.2.2.2, hv, hF]
  have oK : Off [245, 40, 153] [0] M (rI N 153 F) := by rw [hN]; exact ((((Off.rr _ _ M).rI 40 (by decide) _).J 245 (by decide) 0 _).F 0 (by decide) 0).rI 153 (by decide) _
  refine ⟨0, v, _, rI N 153 F, wL_release_ok (M1 := rI M 40 F) (x := v) ?_, ?_, ?_, fun _ => ?_, h0.ask oK ?_, oK.mono (by decide) (by decide), ?_⟩
  · rw [D_X11_release_0_den, D_X11_release_0_eq, pc_box p2 p1, rb_bi, ibz, if_pos g', ask, rb_bi]
    by_cases z : v = 0
    · rw [if_pos z, z]
    · rw [if_neg z] at hv1; rw [if_neg z, ← hv1]
  · rw [D_X12_release_0_den, D_X12_release_0_eq, pm_box (n := n) (by rw [gIJ, rI_I, if_neg (by decide)]; exact p3) p1, rb_bi, ibz, if_pos g', D_X12_release_14_eq]
    simp only [dp_w]
    rw [← hN, show dp_I N 114 0 = 0 by rw [hN, gII, if_pos rfl, uI_s], if_pos rfl, mask, rb_bi]
    by_cases z : v = 0
    · rw [if_pos z, z]
    · rw [if_neg z] at hv1; rw [if_neg z, ← hv1]
  · rw [rI_I, if_neg (by decide), hN, gII, if_pos rfl, uI_s]
  · rw [rI_J, hN]; simp [gJI, gJJ, uI]
  · rw [rI_I, if_pos rfl, rI_I, if_neg (by decide), hN, gII, if_neg (by decide), gIJ, rI_I, if_pos rfl]
  · rw [hN]; exact ⟨Nat.le_add_right _ _, Nat.le_add_right _ _⟩
/-- part -/
theorem pt_sum {r k v : Int32} (h1 : 0 ≤ r.toInt) (h2 : r.toInt ≤ 40000) (h3 : 0 ≤ k.toInt) (h4 : k.toInt ≤ 40000) (h5 : 1 ≤ v) (h6 : v ≤ k - r) : 0 ≤ (r + v).toInt ∧ (r + v).toInt ≤ 40000 := by
  rw [Int32.le_iff_toInt_le] at h5 h6
  have e1 : (1 : Int32).toInt = 1 := rfl
  have e2 : (k - r).toInt = k.toInt - r.toInt := by
    rw [Int32.toInt_sub]
    apply Int.bmod_eq_of_le <;> omega
  have e3 : (r + v).toInt = r.toInt + v.toInt := by
    rw [Int32.toInt_add]
    apply Int.bmod_eq_of_le <;> omega
  omega
theorem s_part {n B t c : Nat} (h : PR M n B t c) (hc : c + 1 < 1073741824) (hn : 246 ≤ dp_n M) (v1 v2 : Int32) : ∃ k b M1 M2, dp_den true xs xl (d + 7) 615 [.ref 0, .int v1, .int v2, .ref 245] M = iR k M1 ∧ dp_den true xs xl (d + 7) 437 [.ref 114, .int v1, .int v2] M1 = iR b M2 ∧
    dp_I M2 114 0 = k ∧ (k = 0 → dp_J M2 245 0 = b.toInt64) ∧ PR M2 n B t (c + 1) ∧ Off (245 :: PR_W) (0 :: PR_V) M M2 ∧ Cst 1 6 M M2 := by
  have h0 := h
  obtain ⟨p1, p2, p3, p4, p5, p6, p7⟩ := h0.bx
  obtain ⟨K, D, gk, gm⟩ := h0.gk
  obtain ⟨h1, h2, h3, h4, h5, ⟨u1, u2, u3⟩, h7⟩ := h
  by_cases g : qin v1 n ∧ 1 ≤ v2
  case neg =>
    obtain ⟨r1, r2, r3⟩ := h0.refused hn 1
    refine ⟨1, 0, dp_new M 0 0 6, _, wL_part_x0 ?_, ?_, rfl, (fun e => by cases e), r1.up (by omega) hc, r2, r3⟩
    · rw [D_X11_part_0_den, D_X11_part_0_eq, pc_box p2 p1, rb_bi, ibz, q_nk hn]
      by_cases z : qin v1 n
      · rw [if_pos z, if_neg (fun q => g ⟨z, q⟩)]
      · rw [if_neg z]
    · rw [D_X12_part_0_den, D_X12_part_0_eq, pm_box (n := n) (by rw [gIN (by omega)]; exact p3) p1, rb_bi, ibz]
      simp only [q_ref, rb_bi]
      by_cases z : qin v1 n
      · rw [if_pos z, if_neg (fun q => g ⟨z, q⟩)]
      · rw [if_neg z]
  obtain ⟨g, gv⟩ := g
  have g' := g
  obtain ⟨x, hx, rfl⟩ := qin_of g (by omega)
  have pw := p5 x hx
  obtain ⟨F, hF⟩ : ∃ F, F = fy (grf (dp_I M 43) x) (vdF M K) (dp_I M 40) n := ⟨_, rfl⟩
  obtain ⟨v, hv⟩ : ∃ v : Int32, v = bI (ttb (grf (dp_I M 43) x) (nbF M K D) n = 0) := ⟨_, rfl⟩
  have ask : ∀ {e : Nat}, dp_den true xs xl (e + 4) 39 [.ref 37, .int (nI x)] M = iR v (rI M 40 F) := by rw [hv, hF]; exact gc_ask gk p2 p1 hx
  obtain ⟨A, hA⟩ : ∃ A, A = rI M 40 F := ⟨_, rfl⟩
  rw [← hA] at ask
  have ak : ∀ k, k ≠ 40 → dp_I A k = dp_I M k := fun k q => by rw [hA, rI_I, if_neg q]
  have mask : ∀ N, (∀ k ∈ [147, 149, 151, 152, 137, 146, 233, 241], dp_I N k = dp_I M k) → (∀ i ∈ [3, 44, 160], dp_I N 114 i = dp_I M 114 i) → dp_I N 153 = dp_I M 153 → ∀ {e : Nat}, dp_den true xs xl (e + 6) 434 [.ref 114, .int (nI x)] N = iR v (rI N 153 F) := by
    intro N a1 a2 a3 e
    rw [gm_ask (gm N a1 a2) hx, a3, show dp_I M 153 = dp_I M 40 from h7.2.2, hv, hF]
  have c1 : dp_den true xs xl (d + 6) 290 [.ref 0, .int (nI x), .int v2] M = dp_bi (dp_den true xs xl (d + 5) 45 [.ref 37, .int (nI x), .int v2] M) (fun r4 M3 => iR r4 M3) := by
    rw [D_X11_part_0_den, D_X11_part_0_eq, pc_box p2 p1, rb_bi, ibz, if_pos g', if_pos gv]
  have c2 : dp_den true xs xl (d + 5) 45 [.ref 37, .int (nI x), .int v2] M = if v = 0 then iR (-1) A else if dp_I M 11 x = 0 then (if v2 ≤ 1000 * dp_I M 5 x - dp_I M 41 x then dp_bv (dp_den true xs xl (d + 4) 50 [.ref 37, .int (nI x), .int 2] (dp_setI A 41 x (dp_I M 41 x + v2))) (fun M6 => iR (dp_I M6 41 x) M6) else iR (-1) A) else iR (-1) A := by
    rw [D_X1_releasePart_0_den, D_X1_releasePart_0_eq, ask, rb_bi]
    simp only [nI_cl (show x < 2147483648 by omega), nI_o (show x < 100 by omega) (by omega), if_false, gc_kg (show x < 100 by omega), rb_bi, dp_w, ak 11 (by decide), ak 41 (by decide), ak 5 (by decide)]
  have m1 : ∀ C : dp_M, (∀ k ∈ [147, 149, 151, 152, 137, 146, 233, 241, 144, 145, 153], dp_I C k = dp_I M k) → dp_I C 114 = dp_I M 114 → ∀ N, N = rI (dp_setI C 114 0 0) 153 F → dp_den true xs xl (d + 7) 437 [.ref 114, .int (nI x), .int v2] C = if v = 0 then iR (-1) N else if dp_I M 11 x = 0 then (if v2 ≤ 1000 * dp_I M 5 x - dp_I M 41 x then dp_bv (dp_den true xs xl (d + 6) 422 [.ref 114, .int (nI x), .int 2] (dp_setI N 145 x (dp_I M 41 x + v2))) (fun M6 => iR (dp_I M6 145 x) M6) else iR (-1) N) else iR (-1) N := fun C a1 a2 N hN => by
    have b : ∀ k, k ≠ 114 → dp_I (dp_setI C 114 0 0) k = dp_I C k := fun k q => by rw [gII, if_neg q]
    have sub : ∀ k ∈ [147, 149, 151, 152, 137, 146, 233, 241], k ≠ 114 ∧ k ∈ [147, 149, 151, 152, 137, 146, 233, 241, 144, 145, 153] := by decide
    rw [D_X12_part_0_den, D_X12_part_0_eq, pm_box (n := n) (by rw [a2]; exact p3) p1, rb_bi, ibz, if_pos g', if_pos gv]
    simp only [dp_w]
    rw [mask (dp_setI C 114 0 0) (fun k hk => by rw [b k (sub k hk).1, a1 k (sub k hk).2]) (fun i hi => by rw [gII, if_pos rfl, uI_n (fun q => by subst q; revert hi; decide), a2]) (by rw [b 153 (by decide), a1 153 (by decide)]), rb_bi, ← hN]
    have w : ∀ k, k ≠ 114 → k ≠ 153 → k ∈ [147, 149, 151, 152, 137, 146, 233, 241, 144, 145, 153] → dp_I N k = dp_I M k := fun k q1 q2 q3 => by rw [hN, rI_I, if_neg q2, b k q1, a1 k q3]
    simp only [nI_cl (show x < 2147483648 by omega), nI_o (show x < 100 by omega) (by omega), if_false, gm_kg (show x < 100 by omega), rb_bi, w 144 (by decide) (by decide) (by decide), w 145 (by decide) (by decide) (by decide), w 137 (by decide) (by decide) (by decide), p6, p4, u1]
  by_cases z : ¬ v = 0 ∧ dp_I M 11 x = 0 ∧ v2 ≤ 1000 * dp_I M 5 x - dp_I M 41 x
  case neg =>
    have ce : dp_den true xs xl (d + 5) 45 [.ref 37, .int (nI x), .int v2] M = iR (-1) A := by
      rw [c2]
      by_cases z1 : v = 0
      · rw [if_pos z1]
      rw [if_neg z1]
      by_cases z2 : dp_I M 11 x = 0
      · rw [if_pos z2, if_neg (fun q => z ⟨z1, z2, q⟩)]
      · rw [if_neg z2]
    have a114 : dp_I (dp_setJ A 245 0 (-1 : Int32).toInt64) 114 = dp_I M 114 := by rw [gIJ, ak 114 (by decide)]
    have oK : Off [245, 40, 153] [0] M (rI (dp_setI (dp_setJ A 245 0 (-1 : Int32).toInt64) 114 0 0) 153 F) := by rw [hA]; exact ((((Off.rr _ _ M).rI 40 (by decide) _).J 245 (by decide) 0 _).F 0 (by decide) 0).rI 153 (by decide) _
    refine ⟨0, -1, _, rI (dp_setI (dp_setJ A 245 0 (-1 : Int32).toInt64) 114 0 0) 153 F, wL_part_ok (M1 := A) (x := -1) (by rw [c1, ce, rb_bi]), ?_, ?_, fun _ => ?_, (h0.ask oK ?_).up (by omega) hc, oK.mono (by decide) (by decide), ?_⟩
    · rw [m1 _ (fun k hk => by rw [gIJ]; exact ak k (fun q => by subst q; revert hk; decide)) a114 _ rfl]
      by_cases z1 : v = 0
      · rw [if_pos z1]
      rw [if_neg z1]
      by_cases z2 : dp_I M 11 x = 0
      · rw [if_pos z2, if_neg (fun q => z ⟨z1, z2, q⟩)]
      · rw [if_neg z2]
    · rw [rI_I, if_neg (by decide), gII, if_pos rfl, uI_s]
    · rw [rI_J]; simp [gJI, gJJ, uI]
    · rw [rI_I, if_pos rfl, rI_I, if_neg (by decide), gII, if_neg (by decide), gIJ, hA, rI_I, if_pos rfl]
    · rw [hA]; exact ⟨Nat.le_add_right _ _, Nat.le_add_right _ _⟩
  obtain ⟨z1, z2, z3⟩ := z
  obtain ⟨R, hR⟩ : ∃ R, R = dp_I M 41 x + v2 := ⟨_, rfl⟩
  have hRb : 0 ≤ R.toInt ∧ R.toInt ≤ 40000 := by
    obtain ⟨w, w1, w2, ew⟩ := wi_of (a := 1) (b := 40) pw (by omega)
    have ek : 1000 * dp_I M 5 x = nI (1000 * w) := by rw [ew, show (1000 : Int32) = nI 1000 from rfl, pk_mul]
    rw [hR]
    refine pt_sum (u2 x hx).1 (u2 x hx).2.1 (k := 1000 * dp_I M 5 x) ?_ ?_ gv z3
    · rw [ek, nI_toInt (by omega)]; omega
    · rw [ek, nI_toInt (by omega)]; omega
  obtain ⟨tt, t1, t2⟩ := h2.tell (xs := xs) (xl := xl) (d := d + 3) hc (nI x) 2
  obtain ⟨C0, hC0⟩ : ∃ C0, C0 = dp_setI A 41 x R := ⟨_, rfl⟩
  have c0 : ∀ k, k ≠ 40 → k ≠ 41 → dp_I C0 k = dp_I M k := fun k q q2 => by rw [hC0, gII, if_neg q2, ak k q]
  obtain ⟨C, hC⟩ : ∃ C, C = tlC C0 tt (10 * nI x + 2) := ⟨_, rfl⟩
  have ck : ∀ k, k ≠ 37 → k ≠ 50 → k ≠ 40 → k ≠ 41 → dp_I C k = dp_I M k := fun k a b e f => by rw [hC, tlC_I _ _ _ k a b, c0 k e f]
  have oC : Off [245, 37, 40, 41, 50, 145, 153, 154] [0, 52] M C := by rw [hC, hC0, hA]; unfold tlC; exact ((((Off.rr _ _ M).rI 40 (by decide) _).I 41 (by decide) _ _).I 50 (by decide) _ _).I 37 (by decide) _ _
  have cR : dp_I C 41 x = R := by rw [hC, tlC_I _ _ _ 41 (by decide) (by decide), hC0, gII, if_pos rfl, uI_s]
  obtain ⟨N, hN⟩ : ∃ N, N = rI (dp_setI (dp_setJ C 245 0 R.toInt64) 114 0 0) 153 F := ⟨_, rfl⟩
  have nk : ∀ k, k ≠ 114 → k ≠ 153 → dp_I N k = dp_I C k := fun k q q' => by rw [hN, rI_I, if_neg q', gII, if_neg q, gIJ]
  obtain ⟨N1, hN1⟩ : ∃ N1, N1 = dp_setI N 145 x R := ⟨_, rfl⟩
  have nk1 : ∀ k, k ≠ 114 → k ≠ 145 → k ≠ 153 → dp_I N1 k = dp_I C k := fun k q q' q2 => by rw [hN1, gII, if_neg q', nk k q q2]
  obtain ⟨M2, q1, q2, q3, q4⟩ := t2 C0 N1 (c0 37 (by decide) (by decide)) (c0 50 (by decide) (by decide)) (by rw [nk1 37 (by decide) (by decide) (by decide), hC]) (by rw [nk1 50 (by decide) (by decide) (by decide), hC]) (by rw [hN1, gII, if_neg (by decide), hN, rI_I, if_neg (by decide), gII, if_pos rfl, uI_n (by decide), gIJ, ck 114 (by decide) (by decide) (by decide) (by decide)]) (by rw [nk1 154 (by decide) (by decide) (by decide), ck 154 (by decide) (by decide) (by decide) (by decide)]) (d + 5)
  have oN : Off [245, 37, 40, 41, 50, 145, 153, 154] [0, 52] M N1 := by rw [hN1, hN]; exact (((oC.J 245 (by decide) 0 _).F 0 (by decide) 0).rI 153 (by decide) _).I 145 (by decide) _ _
  have oK := oN.tr (q3.mono (by decide) (by decide) : Off [245, 37, 40, 41, 50, 145, 153, 154] [0, 52] N1 M2)
  have e37 : dp_I M2 37 2 = dp_I M 37 2 := by rw [(q3.1 37 (by decide) (by decide) (by decide)).1, nk1 37 (by decide) (by decide) (by decide), hC, tlC_g, c0 37 (by decide) (by decide)]
  have r41 : dp_I M2 41 = uI (dp_I M 41) x R := by rw [(q3.1 41 (by decide) (by decide) (by decide)).1, nk1 41 (by decide) (by decide) (by decide), hC, tlC_I _ _ _ 41 (by decide) (by decide), hC0, gII, if_pos rfl, ak 41 (by decide)]
  have r145 : dp_I M2 145 = uI (dp_I M 145) x R := by rw [(q3.1 145 (by decide) (by decide) (by decide)).1, hN1, gII, if_pos rfl, nk 145 (by decide) (by decide), ck 145 (by decide) (by decide) (by decide) (by decide)]
  have r40 : dp_I M2 40 = F := by rw [(q3.1 40 (by decide) (by decide) (by decide)).1, nk1 40 (by decide) (by decide) (by decide), hC, tlC_I _ _ _ 40 (by decide) (by decide), hC0, gII, if_neg (by decide), hA, rI_I, if_pos rfl]
  have r153 : dp_I M2 153 = F := by rw [(q3.1 153 (by decide) (by decide) (by decide)).1, hN1, gII, if_neg (by decide), hN, rI_I, if_pos rfl]
  refine ⟨0, R, _, M2, wL_part_ok (M1 := C) (x := R) (by rw [c1, c2, if_neg z1, if_pos z2, if_pos z3, ← hR, ← hC0, t1 C0 (c0 37 (by decide) (by decide)) (c0 50 (by decide) (by decide)), rb_bv, ← hC, cR, rb_bi]), ?_, ?_, fun _ => ?_, ⟨PHY_off h1 oK (by decide) (by decide), q2, GGd_37 h3 e37 (fun k hk => (oK.1 k (by simp only [List.mem_cons, List.not_mem_nil, or_false] at hk; omega) (by simp only [List.mem_cons, List.not_mem_nil, or_false] at hk ⊢; omega) (by simp only [List.mem_cons, List.not_mem_nil, or_false] at hk; omega)).1) (fun i hi => (oK.2.1 i (by simp only [List.mem_cons, List.not_mem_nil, or_false] at hi ⊢; omega)).1), (GBr_off h4 oK (by decide)).up (by omega), GLd_off h5 oK (by decide), ⟨by rw [r41, r145, u1], fun y hy => ?_, fun y q1 q2 => ?_⟩, h7.ask oK (by decide) (by rw [r40, r153])⟩, oK.mono (by decide) (by decide), ?_⟩
  · rw [m1 (dp_setJ C 245 0 R.toInt64) (fun k hk => by rw [gIJ]; exact ck k (fun q => by subst q; revert hk; decide) (fun q => by subst q; revert hk; decide) (fun q => by subst q; revert hk; decide) (fun q => by subst q; revert hk; decide)) (by rw [gIJ]; exact ck 114 (by decide) (by decide) (by decide) (by decide)) N hN, if_neg z1, if_pos z2, if_pos z3, ← hR, ← hN1, q1, rb_bv, r145, uI_s]
  · rw [(q3.2.1 0 (by decide)).1, hN1, gII, if_neg (by decide), hN, rI_I, if_neg (by decide)]; simp [gII, uI]
  · rw [(q3.1 245 (by decide) (by decide) (by decide)).2.1, hN1, hN, gJI, rI_J]; simp [gJI, gJJ, uI]
  · rw [r41, (oK.1 11 (by decide) (by decide) (by decide)).1, (oK.1 5 (by decide) (by decide) (by decide)).1]
    by_cases w : y = x
    · subst w; rw [uI_s]; exact ⟨hRb.1, hRb.2, fun q => by rw [z2] at q; exact absurd q (by decide)⟩
    · rw [uI_n w]; exact u2 y hy
  · rw [r41, uI_n (by omega)]; exact u3 y q1 q2
  · have q5 : Cst 0 0 M N1 := by rw [hN1, hN, hC, hC0, hA]; exact ⟨Nat.le_refl _, Nat.le_refl _⟩
    exact (q5.tr0 q4).mono (by omega) (by omega)
end GK
